section
-- ===== PART A: goes FIRST, ahead of the names: the tables' words, and 'selects' of the private methods out of them =====
/-- a private method of a class that the tables say can be made, by its rows of tables_1 -/
def lw_okq (q : MethodName × Nat) : Prop := (q.1.cls ≠ "java/lang/invoke/MethodHandle" ∧ q.1.cls ≠ "java/lang/invoke/VarHandle") ∧ Cond.instantiable q.1.cls q.2 ∈ tables_1 ∧ Cond.privateMethod q.1 ∈ tables_1 ∧ Cond.instanceMethod q.1 ∈ tables_1
theorem lw_p0 : lw_okq (⟨"PassingTrack", "changed", "(I)I"⟩, 12) := ⟨⟨by decide +kernel, by decide +kernel⟩, List.mem_of_getElem? (i := 14) (by decide +kernel), List.mem_of_getElem? (i := 271) (by decide +kernel), List.mem_of_getElem? (i := 272) (by decide +kernel)⟩
theorem lw_p1 : lw_okq (⟨"PassingTrack$History", "dropOldest", "()V"⟩, 2) := ⟨⟨by decide +kernel, by decide +kernel⟩, List.mem_of_getElem? (i := 202) (by decide +kernel), List.mem_of_getElem? (i := 279) (by decide +kernel), List.mem_of_getElem? (i := 280) (by decide +kernel)⟩
theorem lw_p2 : lw_okq (⟨"PassingTrack$Day", "putOutside", "()V"⟩, 11) := ⟨⟨by decide +kernel, by decide +kernel⟩, List.mem_of_getElem? (i := 22) (by decide +kernel), List.mem_of_getElem? (i := 365) (by decide +kernel), List.mem_of_getElem? (i := 366) (by decide +kernel)⟩
theorem lw_p3 : lw_okq (⟨"PassingTrack$Day", "stand", "(III)V"⟩, 11) := ⟨⟨by decide +kernel, by decide +kernel⟩, List.mem_of_getElem? (i := 22) (by decide +kernel), List.mem_of_getElem? (i := 370) (by decide +kernel), List.mem_of_getElem? (i := 371) (by decide +kernel)⟩
theorem lw_p4 : lw_okq (⟨"PassingTrack$Day", "comeIn", "(I)V"⟩, 11) := ⟨⟨by decide +kernel, by decide +kernel⟩, List.mem_of_getElem? (i := 22) (by decide +kernel), List.mem_of_getElem? (i := 375) (by decide +kernel), List.mem_of_getElem? (i := 376) (by decide +kernel)⟩
theorem lw_p5 : lw_okq (⟨"PassingTrack$Day", "letLeave", "(I)V"⟩, 11) := ⟨⟨by decide +kernel, by decide +kernel⟩, List.mem_of_getElem? (i := 22) (by decide +kernel), List.mem_of_getElem? (i := 391) (by decide +kernel), List.mem_of_getElem? (i := 392) (by decide +kernel)⟩
theorem lw_p6 : lw_okq (⟨"PassingTrack$Day", "firstToLeave", "(I)I"⟩, 11) := ⟨⟨by decide +kernel, by decide +kernel⟩, List.mem_of_getElem? (i := 22) (by decide +kernel), List.mem_of_getElem? (i := 395) (by decide +kernel), List.mem_of_getElem? (i := 396) (by decide +kernel)⟩
theorem lw_p7 : lw_okq (⟨"PassingTrack$Day", "canLeave", "(II)Z"⟩, 11) := ⟨⟨by decide +kernel, by decide +kernel⟩, List.mem_of_getElem? (i := 22) (by decide +kernel), List.mem_of_getElem? (i := 399) (by decide +kernel), List.mem_of_getElem? (i := 400) (by decide +kernel)⟩
theorem lw_p8 : lw_okq (⟨"PassingTrack$Day", "isAtEnd", "(I)Z"⟩, 11) := ⟨⟨by decide +kernel, by decide +kernel⟩, List.mem_of_getElem? (i := 22) (by decide +kernel), List.mem_of_getElem? (i := 403) (by decide +kernel), List.mem_of_getElem? (i := 404) (by decide +kernel)⟩
theorem lw_p9 : lw_okq (⟨"PassingTrack$Day", "goesBefore", "(II)Z"⟩, 11) := ⟨⟨by decide +kernel, by decide +kernel⟩, List.mem_of_getElem? (i := 22) (by decide +kernel), List.mem_of_getElem? (i := 407) (by decide +kernel), List.mem_of_getElem? (i := 408) (by decide +kernel)⟩
theorem lw_p10 : lw_okq (⟨"PassingTrack$Day", "leave", "(II)V"⟩, 11) := ⟨⟨by decide +kernel, by decide +kernel⟩, List.mem_of_getElem? (i := 22) (by decide +kernel), List.mem_of_getElem? (i := 411) (by decide +kernel), List.mem_of_getElem? (i := 412) (by decide +kernel)⟩
theorem lw_p11 : lw_okq (⟨"PassingTrack$Day", "nextEvent", "(I)I"⟩, 11) := ⟨⟨by decide +kernel, by decide +kernel⟩, List.mem_of_getElem? (i := 22) (by decide +kernel), List.mem_of_getElem? (i := 415) (by decide +kernel), List.mem_of_getElem? (i := 416) (by decide +kernel)⟩
theorem lw_p12 : lw_okq (⟨"PassingTrack$Day", "notAtEnd", "()I"⟩, 11) := ⟨⟨by decide +kernel, by decide +kernel⟩, List.mem_of_getElem? (i := 22) (by decide +kernel), List.mem_of_getElem? (i := 419) (by decide +kernel), List.mem_of_getElem? (i := 420) (by decide +kernel)⟩
theorem lw_p13 : lw_okq (⟨"PassingTrack$Waits", "gatherAt", "(LPassingTrack$Day;II)V"⟩, 2) := ⟨⟨by decide +kernel, by decide +kernel⟩, List.mem_of_getElem? (i := 133) (by decide +kernel), List.mem_of_getElem? (i := 445) (by decide +kernel), List.mem_of_getElem? (i := 446) (by decide +kernel)⟩
theorem lw_p14 : lw_okq (⟨"PassingTrack$Meetings", "gatherPair", "(LPassingTrack$Day;II)V"⟩, 2) := ⟨⟨by decide +kernel, by decide +kernel⟩, List.mem_of_getElem? (i := 146) (by decide +kernel), List.mem_of_getElem? (i := 499) (by decide +kernel), List.mem_of_getElem? (i := 500) (by decide +kernel)⟩
theorem lw_p15 : lw_okq (⟨"PassingTrack$Meetings", "insert", "(I)V"⟩, 2) := ⟨⟨by decide +kernel, by decide +kernel⟩, List.mem_of_getElem? (i := 146) (by decide +kernel), List.mem_of_getElem? (i := 508) (by decide +kernel), List.mem_of_getElem? (i := 509) (by decide +kernel)⟩
def lw_privs_1 : List (MethodName × Nat) := [(⟨"PassingTrack", "changed", "(I)I"⟩, 12), (⟨"PassingTrack$History", "dropOldest", "()V"⟩, 2), (⟨"PassingTrack$Day", "putOutside", "()V"⟩, 11), (⟨"PassingTrack$Day", "stand", "(III)V"⟩, 11), (⟨"PassingTrack$Day", "comeIn", "(I)V"⟩, 11), (⟨"PassingTrack$Day", "letLeave", "(I)V"⟩, 11), (⟨"PassingTrack$Day", "firstToLeave", "(I)I"⟩, 11), (⟨"PassingTrack$Day", "canLeave", "(II)Z"⟩, 11), (⟨"PassingTrack$Day", "isAtEnd", "(I)Z"⟩, 11), (⟨"PassingTrack$Day", "goesBefore", "(II)Z"⟩, 11), (⟨"PassingTrack$Day", "leave", "(II)V"⟩, 11), (⟨"PassingTrack$Day", "nextEvent", "(I)I"⟩, 11), (⟨"PassingTrack$Day", "notAtEnd", "()I"⟩, 11), (⟨"PassingTrack$Waits", "gatherAt", "(LPassingTrack$Day;II)V"⟩, 2), (⟨"PassingTrack$Meetings", "gatherPair", "(LPassingTrack$Day;II)V"⟩, 2), (⟨"PassingTrack$Meetings", "insert", "(I)V"⟩, 2)]
theorem lw_r1 : ∀ q ∈ lw_privs_1, lw_okq q := List.forall_mem_cons.mpr ⟨lw_p0, List.forall_mem_cons.mpr ⟨lw_p1, List.forall_mem_cons.mpr ⟨lw_p2, List.forall_mem_cons.mpr ⟨lw_p3, List.forall_mem_cons.mpr ⟨lw_p4, List.forall_mem_cons.mpr ⟨lw_p5, List.forall_mem_cons.mpr ⟨lw_p6, List.forall_mem_cons.mpr ⟨lw_p7, List.forall_mem_cons.mpr ⟨lw_p8, List.forall_mem_cons.mpr ⟨lw_p9, List.forall_mem_cons.mpr ⟨lw_p10, List.forall_mem_cons.mpr ⟨lw_p11, List.forall_mem_cons.mpr ⟨lw_p12, List.forall_mem_cons.mpr ⟨lw_p13, List.forall_mem_cons.mpr ⟨lw_p14, List.forall_mem_cons.mpr ⟨lw_p15, fun _ h => absurd h List.not_mem_nil⟩⟩⟩⟩⟩⟩⟩⟩⟩⟩⟩⟩⟩⟩⟩⟩
theorem lw_p16 : lw_okq (⟨"PassingTrack", "trialDelay", "()I"⟩, 12) := ⟨⟨by decide +kernel, by decide +kernel⟩, List.mem_of_getElem? (i := 14) (by decide +kernel), List.mem_of_getElem? (i := 562) (by decide +kernel), List.mem_of_getElem? (i := 563) (by decide +kernel)⟩
theorem lw_p17 : lw_okq (⟨"PassingTrack$Orders", "keepIfBetter", "(II)V"⟩, 3) := ⟨⟨by decide +kernel, by decide +kernel⟩, List.mem_of_getElem? (i := 160) (by decide +kernel), List.mem_of_getElem? (i := 585) (by decide +kernel), List.mem_of_getElem? (i := 586) (by decide +kernel)⟩
theorem lw_p18 : lw_okq (⟨"PassingTrack$Orders", "nextOrder", "(I)Z"⟩, 3) := ⟨⟨by decide +kernel, by decide +kernel⟩, List.mem_of_getElem? (i := 160) (by decide +kernel), List.mem_of_getElem? (i := 590) (by decide +kernel), List.mem_of_getElem? (i := 591) (by decide +kernel)⟩
theorem lw_p19 : lw_okq (⟨"PassingTrack$Orders", "swap", "(II)V"⟩, 3) := ⟨⟨by decide +kernel, by decide +kernel⟩, List.mem_of_getElem? (i := 160) (by decide +kernel), List.mem_of_getElem? (i := 594) (by decide +kernel), List.mem_of_getElem? (i := 595) (by decide +kernel)⟩
theorem lw_p20 : lw_okq (⟨"PassingTrack$Pad", "readOrder", "()Z"⟩, 5) := ⟨⟨by decide +kernel, by decide +kernel⟩, List.mem_of_getElem? (i := 178) (by decide +kernel), List.mem_of_getElem? (i := 628) (by decide +kernel), List.mem_of_getElem? (i := 629) (by decide +kernel)⟩
theorem lw_p21 : lw_okq (⟨"PassingTrack$Pad", "peek", "()I"⟩, 5) := ⟨⟨by decide +kernel, by decide +kernel⟩, List.mem_of_getElem? (i := 178) (by decide +kernel), List.mem_of_getElem? (i := 633) (by decide +kernel), List.mem_of_getElem? (i := 634) (by decide +kernel)⟩
theorem lw_p22 : lw_okq (⟨"PassingTrack$Pad", "readShuttle", "()Z"⟩, 5) := ⟨⟨by decide +kernel, by decide +kernel⟩, List.mem_of_getElem? (i := 178) (by decide +kernel), List.mem_of_getElem? (i := 637) (by decide +kernel), List.mem_of_getElem? (i := 638) (by decide +kernel)⟩
theorem lw_p23 : lw_okq (⟨"PassingTrack$Pad", "readDigit", "(II)Z"⟩, 5) := ⟨⟨by decide +kernel, by decide +kernel⟩, List.mem_of_getElem? (i := 178) (by decide +kernel), List.mem_of_getElem? (i := 641) (by decide +kernel), List.mem_of_getElem? (i := 642) (by decide +kernel)⟩
theorem lw_p24 : lw_okq (⟨"PassingTrack$Pad", "readSign", "(C)Z"⟩, 5) := ⟨⟨by decide +kernel, by decide +kernel⟩, List.mem_of_getElem? (i := 178) (by decide +kernel), List.mem_of_getElem? (i := 645) (by decide +kernel), List.mem_of_getElem? (i := 646) (by decide +kernel)⟩
theorem lw_p25 : lw_okq (⟨"PassingTrack$Pad", "readNumber", "(I)Z"⟩, 5) := ⟨⟨by decide +kernel, by decide +kernel⟩, List.mem_of_getElem? (i := 178) (by decide +kernel), List.mem_of_getElem? (i := 649) (by decide +kernel), List.mem_of_getElem? (i := 650) (by decide +kernel)⟩
theorem lw_p26 : lw_okq (⟨"PassingTrack$Pad", "obeyOrder", "(LPassingTrack$Line;)I"⟩, 5) := ⟨⟨by decide +kernel, by decide +kernel⟩, List.mem_of_getElem? (i := 178) (by decide +kernel), List.mem_of_getElem? (i := 661) (by decide +kernel), List.mem_of_getElem? (i := 662) (by decide +kernel)⟩
theorem lw_p27 : lw_okq (⟨"PassingTrackModel", "keep", "()V"⟩, 30) := ⟨⟨by decide +kernel, by decide +kernel⟩, List.mem_of_getElem? (i := 690) (by decide +kernel), List.mem_of_getElem? (i := 794) (by decide +kernel), List.mem_of_getElem? (i := 795) (by decide +kernel)⟩
theorem lw_p28 : lw_okq (⟨"PassingTrackModel", "tryTracks", "(IIZ)I"⟩, 30) := ⟨⟨by decide +kernel, by decide +kernel⟩, List.mem_of_getElem? (i := 690) (by decide +kernel), List.mem_of_getElem? (i := 802) (by decide +kernel), List.mem_of_getElem? (i := 803) (by decide +kernel)⟩
theorem lw_p29 : lw_okq (⟨"PassingTrackModel", "change", "(IIZ)I"⟩, 30) := ⟨⟨by decide +kernel, by decide +kernel⟩, List.mem_of_getElem? (i := 690) (by decide +kernel), List.mem_of_getElem? (i := 809) (by decide +kernel), List.mem_of_getElem? (i := 810) (by decide +kernel)⟩
theorem lw_p30 : lw_okq (⟨"PassingTrackModel", "keepIf", "(Z)V"⟩, 30) := ⟨⟨by decide +kernel, by decide +kernel⟩, List.mem_of_getElem? (i := 690) (by decide +kernel), List.mem_of_getElem? (i := 813) (by decide +kernel), List.mem_of_getElem? (i := 814) (by decide +kernel)⟩
theorem lw_p31 : lw_okq (⟨"PassingTrackModel", "tryRunning", "(IIZ)I"⟩, 30) := ⟨⟨by decide +kernel, by decide +kernel⟩, List.mem_of_getElem? (i := 690) (by decide +kernel), List.mem_of_getElem? (i := 821) (by decide +kernel), List.mem_of_getElem? (i := 822) (by decide +kernel)⟩
def lw_privs_2 : List (MethodName × Nat) := [(⟨"PassingTrack", "trialDelay", "()I"⟩, 12), (⟨"PassingTrack$Orders", "keepIfBetter", "(II)V"⟩, 3), (⟨"PassingTrack$Orders", "nextOrder", "(I)Z"⟩, 3), (⟨"PassingTrack$Orders", "swap", "(II)V"⟩, 3), (⟨"PassingTrack$Pad", "readOrder", "()Z"⟩, 5), (⟨"PassingTrack$Pad", "peek", "()I"⟩, 5), (⟨"PassingTrack$Pad", "readShuttle", "()Z"⟩, 5), (⟨"PassingTrack$Pad", "readDigit", "(II)Z"⟩, 5), (⟨"PassingTrack$Pad", "readSign", "(C)Z"⟩, 5), (⟨"PassingTrack$Pad", "readNumber", "(I)Z"⟩, 5), (⟨"PassingTrack$Pad", "obeyOrder", "(LPassingTrack$Line;)I"⟩, 5), (⟨"PassingTrackModel", "keep", "()V"⟩, 30), (⟨"PassingTrackModel", "tryTracks", "(IIZ)I"⟩, 30), (⟨"PassingTrackModel", "change", "(IIZ)I"⟩, 30), (⟨"PassingTrackModel", "keepIf", "(Z)V"⟩, 30), (⟨"PassingTrackModel", "tryRunning", "(IIZ)I"⟩, 30)]
theorem lw_r2 : ∀ q ∈ lw_privs_2, lw_okq q := List.forall_mem_cons.mpr ⟨lw_p16, List.forall_mem_cons.mpr ⟨lw_p17, List.forall_mem_cons.mpr ⟨lw_p18, List.forall_mem_cons.mpr ⟨lw_p19, List.forall_mem_cons.mpr ⟨lw_p20, List.forall_mem_cons.mpr ⟨lw_p21, List.forall_mem_cons.mpr ⟨lw_p22, List.forall_mem_cons.mpr ⟨lw_p23, List.forall_mem_cons.mpr ⟨lw_p24, List.forall_mem_cons.mpr ⟨lw_p25, List.forall_mem_cons.mpr ⟨lw_p26, List.forall_mem_cons.mpr ⟨lw_p27, List.forall_mem_cons.mpr ⟨lw_p28, List.forall_mem_cons.mpr ⟨lw_p29, List.forall_mem_cons.mpr ⟨lw_p30, List.forall_mem_cons.mpr ⟨lw_p31, fun _ h => absurd h List.not_mem_nil⟩⟩⟩⟩⟩⟩⟩⟩⟩⟩⟩⟩⟩⟩⟩⟩
theorem lw_p32 : lw_okq (⟨"PassingTrackModel", "tryShuttle", "(IIIIIZ)I"⟩, 30) := ⟨⟨by decide +kernel, by decide +kernel⟩, List.mem_of_getElem? (i := 690) (by decide +kernel), List.mem_of_getElem? (i := 832) (by decide +kernel), List.mem_of_getElem? (i := 833) (by decide +kernel)⟩
theorem lw_p33 : lw_okq (⟨"PassingTrackModel", "tryLate", "(IIZ)I"⟩, 30) := ⟨⟨by decide +kernel, by decide +kernel⟩, List.mem_of_getElem? (i := 690) (by decide +kernel), List.mem_of_getElem? (i := 840) (by decide +kernel), List.mem_of_getElem? (i := 841) (by decide +kernel)⟩
theorem lw_p34 : lw_okq (⟨"PassingTrackModel", "whyNotLate", "(II)I"⟩, 30) := ⟨⟨by decide +kernel, by decide +kernel⟩, List.mem_of_getElem? (i := 690) (by decide +kernel), List.mem_of_getElem? (i := 844) (by decide +kernel), List.mem_of_getElem? (i := 845) (by decide +kernel)⟩
theorem lw_p35 : lw_okq (⟨"PassingTrackModel", "isShuttle", "(I)Z"⟩, 30) := ⟨⟨by decide +kernel, by decide +kernel⟩, List.mem_of_getElem? (i := 690) (by decide +kernel), List.mem_of_getElem? (i := 848) (by decide +kernel), List.mem_of_getElem? (i := 849) (by decide +kernel)⟩
theorem lw_p36 : lw_okq (⟨"PassingTrackModel", "of", "(II)I"⟩, 30) := ⟨⟨by decide +kernel, by decide +kernel⟩, List.mem_of_getElem? (i := 690) (by decide +kernel), List.mem_of_getElem? (i := 852) (by decide +kernel), List.mem_of_getElem? (i := 853) (by decide +kernel)⟩
theorem lw_p37 : lw_okq (⟨"PassingTrackModel", "tryPrefer", "(IIZ)I"⟩, 30) := ⟨⟨by decide +kernel, by decide +kernel⟩, List.mem_of_getElem? (i := 690) (by decide +kernel), List.mem_of_getElem? (i := 860) (by decide +kernel), List.mem_of_getElem? (i := 861) (by decide +kernel)⟩
theorem lw_p38 : lw_okq (⟨"PassingTrackModel", "tryRemove", "(IZ)I"⟩, 30) := ⟨⟨by decide +kernel, by decide +kernel⟩, List.mem_of_getElem? (i := 690) (by decide +kernel), List.mem_of_getElem? (i := 868) (by decide +kernel), List.mem_of_getElem? (i := 869) (by decide +kernel)⟩
theorem lw_p39 : lw_okq (⟨"PassingTrackModel", "run", "()V"⟩, 30) := ⟨⟨by decide +kernel, by decide +kernel⟩, List.mem_of_getElem? (i := 690) (by decide +kernel), List.mem_of_getElem? (i := 876) (by decide +kernel), List.mem_of_getElem? (i := 877) (by decide +kernel)⟩
theorem lw_p40 : lw_okq (⟨"PassingTrackModel", "isAsRun", "()Z"⟩, 30) := ⟨⟨by decide +kernel, by decide +kernel⟩, List.mem_of_getElem? (i := 690) (by decide +kernel), List.mem_of_getElem? (i := 880) (by decide +kernel), List.mem_of_getElem? (i := 881) (by decide +kernel)⟩
theorem lw_p41 : lw_okq (⟨"PassingTrackModel", "beginDay", "()V"⟩, 30) := ⟨⟨by decide +kernel, by decide +kernel⟩, List.mem_of_getElem? (i := 690) (by decide +kernel), List.mem_of_getElem? (i := 884) (by decide +kernel), List.mem_of_getElem? (i := 885) (by decide +kernel)⟩
theorem lw_p42 : lw_okq (⟨"PassingTrackModel", "come", "(I)V"⟩, 30) := ⟨⟨by decide +kernel, by decide +kernel⟩, List.mem_of_getElem? (i := 690) (by decide +kernel), List.mem_of_getElem? (i := 888) (by decide +kernel), List.mem_of_getElem? (i := 889) (by decide +kernel)⟩
theorem lw_p43 : lw_okq (⟨"PassingTrackModel", "way", "(I)I"⟩, 30) := ⟨⟨by decide +kernel, by decide +kernel⟩, List.mem_of_getElem? (i := 690) (by decide +kernel), List.mem_of_getElem? (i := 892) (by decide +kernel), List.mem_of_getElem? (i := 893) (by decide +kernel)⟩
theorem lw_p44 : lw_okq (⟨"PassingTrackModel", "meet", "(I)V"⟩, 30) := ⟨⟨by decide +kernel, by decide +kernel⟩, List.mem_of_getElem? (i := 690) (by decide +kernel), List.mem_of_getElem? (i := 896) (by decide +kernel), List.mem_of_getElem? (i := 897) (by decide +kernel)⟩
theorem lw_p45 : lw_okq (⟨"PassingTrackModel", "leave", "(I)V"⟩, 30) := ⟨⟨by decide +kernel, by decide +kernel⟩, List.mem_of_getElem? (i := 690) (by decide +kernel), List.mem_of_getElem? (i := 900) (by decide +kernel), List.mem_of_getElem? (i := 901) (by decide +kernel)⟩
theorem lw_p46 : lw_okq (⟨"PassingTrackModel", "nextToLeave", "(I)I"⟩, 30) := ⟨⟨by decide +kernel, by decide +kernel⟩, List.mem_of_getElem? (i := 690) (by decide +kernel), List.mem_of_getElem? (i := 904) (by decide +kernel), List.mem_of_getElem? (i := 905) (by decide +kernel)⟩
theorem lw_p47 : lw_okq (⟨"PassingTrackModel", "canLeave", "(II)Z"⟩, 30) := ⟨⟨by decide +kernel, by decide +kernel⟩, List.mem_of_getElem? (i := 690) (by decide +kernel), List.mem_of_getElem? (i := 908) (by decide +kernel), List.mem_of_getElem? (i := 909) (by decide +kernel)⟩
def lw_privs_3 : List (MethodName × Nat) := [(⟨"PassingTrackModel", "tryShuttle", "(IIIIIZ)I"⟩, 30), (⟨"PassingTrackModel", "tryLate", "(IIZ)I"⟩, 30), (⟨"PassingTrackModel", "whyNotLate", "(II)I"⟩, 30), (⟨"PassingTrackModel", "isShuttle", "(I)Z"⟩, 30), (⟨"PassingTrackModel", "of", "(II)I"⟩, 30), (⟨"PassingTrackModel", "tryPrefer", "(IIZ)I"⟩, 30), (⟨"PassingTrackModel", "tryRemove", "(IZ)I"⟩, 30), (⟨"PassingTrackModel", "run", "()V"⟩, 30), (⟨"PassingTrackModel", "isAsRun", "()Z"⟩, 30), (⟨"PassingTrackModel", "beginDay", "()V"⟩, 30), (⟨"PassingTrackModel", "come", "(I)V"⟩, 30), (⟨"PassingTrackModel", "way", "(I)I"⟩, 30), (⟨"PassingTrackModel", "meet", "(I)V"⟩, 30), (⟨"PassingTrackModel", "leave", "(I)V"⟩, 30), (⟨"PassingTrackModel", "nextToLeave", "(I)I"⟩, 30), (⟨"PassingTrackModel", "canLeave", "(II)Z"⟩, 30)]
theorem lw_r3 : ∀ q ∈ lw_privs_3, lw_okq q := List.forall_mem_cons.mpr ⟨lw_p32, List.forall_mem_cons.mpr ⟨lw_p33, List.forall_mem_cons.mpr ⟨lw_p34, List.forall_mem_cons.mpr ⟨lw_p35, List.forall_mem_cons.mpr ⟨lw_p36, List.forall_mem_cons.mpr ⟨lw_p37, List.forall_mem_cons.mpr ⟨lw_p38, List.forall_mem_cons.mpr ⟨lw_p39, List.forall_mem_cons.mpr ⟨lw_p40, List.forall_mem_cons.mpr ⟨lw_p41, List.forall_mem_cons.mpr ⟨lw_p42, List.forall_mem_cons.mpr ⟨lw_p43, List.forall_mem_cons.mpr ⟨lw_p44, List.forall_mem_cons.mpr ⟨lw_p45, List.forall_mem_cons.mpr ⟨lw_p46, List.forall_mem_cons.mpr ⟨lw_p47, fun _ h => absurd h List.not_mem_nil⟩⟩⟩⟩⟩⟩⟩⟩⟩⟩⟩⟩⟩⟩⟩⟩
theorem lw_p48 : lw_okq (⟨"PassingTrackModel", "isReady", "(II)Z"⟩, 30) := ⟨⟨by decide +kernel, by decide +kernel⟩, List.mem_of_getElem? (i := 690) (by decide +kernel), List.mem_of_getElem? (i := 912) (by decide +kernel), List.mem_of_getElem? (i := 913) (by decide +kernel)⟩
theorem lw_p49 : lw_okq (⟨"PassingTrackModel", "readyAt", "(I)I"⟩, 30) := ⟨⟨by decide +kernel, by decide +kernel⟩, List.mem_of_getElem? (i := 690) (by decide +kernel), List.mem_of_getElem? (i := 916) (by decide +kernel), List.mem_of_getElem? (i := 917) (by decide +kernel)⟩
theorem lw_p50 : lw_okq (⟨"PassingTrackModel", "whoIsOn", "(I)I"⟩, 30) := ⟨⟨by decide +kernel, by decide +kernel⟩, List.mem_of_getElem? (i := 690) (by decide +kernel), List.mem_of_getElem? (i := 923) (by decide +kernel), List.mem_of_getElem? (i := 924) (by decide +kernel)⟩
theorem lw_p51 : lw_okq (⟨"PassingTrackModel", "taken", "(I)I"⟩, 30) := ⟨⟨by decide +kernel, by decide +kernel⟩, List.mem_of_getElem? (i := 690) (by decide +kernel), List.mem_of_getElem? (i := 927) (by decide +kernel), List.mem_of_getElem? (i := 928) (by decide +kernel)⟩
theorem lw_p52 : lw_okq (⟨"PassingTrackModel", "goesAhead", "(II)Z"⟩, 30) := ⟨⟨by decide +kernel, by decide +kernel⟩, List.mem_of_getElem? (i := 690) (by decide +kernel), List.mem_of_getElem? (i := 931) (by decide +kernel), List.mem_of_getElem? (i := 932) (by decide +kernel)⟩
theorem lw_p53 : lw_okq (⟨"PassingTrackModel", "timeOf", "(II)I"⟩, 30) := ⟨⟨by decide +kernel, by decide +kernel⟩, List.mem_of_getElem? (i := 690) (by decide +kernel), List.mem_of_getElem? (i := 935) (by decide +kernel), List.mem_of_getElem? (i := 936) (by decide +kernel)⟩
theorem lw_p54 : lw_okq (⟨"PassingTrackModel", "waitAll", "(I)V"⟩, 30) := ⟨⟨by decide +kernel, by decide +kernel⟩, List.mem_of_getElem? (i := 690) (by decide +kernel), List.mem_of_getElem? (i := 939) (by decide +kernel), List.mem_of_getElem? (i := 940) (by decide +kernel)⟩
theorem lw_p55 : lw_okq (⟨"PassingTrackModel", "reason", "(I)I"⟩, 30) := ⟨⟨by decide +kernel, by decide +kernel⟩, List.mem_of_getElem? (i := 690) (by decide +kernel), List.mem_of_getElem? (i := 943) (by decide +kernel), List.mem_of_getElem? (i := 944) (by decide +kernel)⟩
theorem lw_p56 : lw_okq (⟨"PassingTrackModel", "ends", "(I)Z"⟩, 30) := ⟨⟨by decide +kernel, by decide +kernel⟩, List.mem_of_getElem? (i := 690) (by decide +kernel), List.mem_of_getElem? (i := 947) (by decide +kernel), List.mem_of_getElem? (i := 948) (by decide +kernel)⟩
theorem lw_p57 : lw_okq (⟨"PassingTrackModel", "endOf", "(I)I"⟩, 30) := ⟨⟨by decide +kernel, by decide +kernel⟩, List.mem_of_getElem? (i := 690) (by decide +kernel), List.mem_of_getElem? (i := 951) (by decide +kernel), List.mem_of_getElem? (i := 952) (by decide +kernel)⟩
theorem lw_p58 : lw_okq (⟨"PassingTrackModel", "delayOf", "(I)I"⟩, 30) := ⟨⟨by decide +kernel, by decide +kernel⟩, List.mem_of_getElem? (i := 690) (by decide +kernel), List.mem_of_getElem? (i := 955) (by decide +kernel), List.mem_of_getElem? (i := 956) (by decide +kernel)⟩
theorem lw_p59 : lw_okq (⟨"PassingTrackModel", "waited", "(I)I"⟩, 30) := ⟨⟨by decide +kernel, by decide +kernel⟩, List.mem_of_getElem? (i := 690) (by decide +kernel), List.mem_of_getElem? (i := 959) (by decide +kernel), List.mem_of_getElem? (i := 960) (by decide +kernel)⟩
theorem lw_p60 : lw_okq (⟨"PassingTrackModel", "blamed", "(I)I"⟩, 30) := ⟨⟨by decide +kernel, by decide +kernel⟩, List.mem_of_getElem? (i := 690) (by decide +kernel), List.mem_of_getElem? (i := 963) (by decide +kernel), List.mem_of_getElem? (i := 964) (by decide +kernel)⟩
theorem lw_p61 : lw_okq (⟨"PassingTrackModel", "delay", "()I"⟩, 30) := ⟨⟨by decide +kernel, by decide +kernel⟩, List.mem_of_getElem? (i := 690) (by decide +kernel), List.mem_of_getElem? (i := 975) (by decide +kernel), List.mem_of_getElem? (i := 976) (by decide +kernel)⟩
theorem lw_p62 : lw_okq (⟨"PassingTrackModel", "meetings", "()I"⟩, 30) := ⟨⟨by decide +kernel, by decide +kernel⟩, List.mem_of_getElem? (i := 690) (by decide +kernel), List.mem_of_getElem? (i := 979) (by decide +kernel), List.mem_of_getElem? (i := 980) (by decide +kernel)⟩
theorem lw_p63 : lw_okq (⟨"PassingTrackModel", "allWaits", "()I"⟩, 30) := ⟨⟨by decide +kernel, by decide +kernel⟩, List.mem_of_getElem? (i := 690) (by decide +kernel), List.mem_of_getElem? (i := 983) (by decide +kernel), List.mem_of_getElem? (i := 984) (by decide +kernel)⟩
def lw_privs_4 : List (MethodName × Nat) := [(⟨"PassingTrackModel", "isReady", "(II)Z"⟩, 30), (⟨"PassingTrackModel", "readyAt", "(I)I"⟩, 30), (⟨"PassingTrackModel", "whoIsOn", "(I)I"⟩, 30), (⟨"PassingTrackModel", "taken", "(I)I"⟩, 30), (⟨"PassingTrackModel", "goesAhead", "(II)Z"⟩, 30), (⟨"PassingTrackModel", "timeOf", "(II)I"⟩, 30), (⟨"PassingTrackModel", "waitAll", "(I)V"⟩, 30), (⟨"PassingTrackModel", "reason", "(I)I"⟩, 30), (⟨"PassingTrackModel", "ends", "(I)Z"⟩, 30), (⟨"PassingTrackModel", "endOf", "(I)I"⟩, 30), (⟨"PassingTrackModel", "delayOf", "(I)I"⟩, 30), (⟨"PassingTrackModel", "waited", "(I)I"⟩, 30), (⟨"PassingTrackModel", "blamed", "(I)I"⟩, 30), (⟨"PassingTrackModel", "delay", "()I"⟩, 30), (⟨"PassingTrackModel", "meetings", "()I"⟩, 30), (⟨"PassingTrackModel", "allWaits", "()I"⟩, 30)]
theorem lw_r4 : ∀ q ∈ lw_privs_4, lw_okq q := List.forall_mem_cons.mpr ⟨lw_p48, List.forall_mem_cons.mpr ⟨lw_p49, List.forall_mem_cons.mpr ⟨lw_p50, List.forall_mem_cons.mpr ⟨lw_p51, List.forall_mem_cons.mpr ⟨lw_p52, List.forall_mem_cons.mpr ⟨lw_p53, List.forall_mem_cons.mpr ⟨lw_p54, List.forall_mem_cons.mpr ⟨lw_p55, List.forall_mem_cons.mpr ⟨lw_p56, List.forall_mem_cons.mpr ⟨lw_p57, List.forall_mem_cons.mpr ⟨lw_p58, List.forall_mem_cons.mpr ⟨lw_p59, List.forall_mem_cons.mpr ⟨lw_p60, List.forall_mem_cons.mpr ⟨lw_p61, List.forall_mem_cons.mpr ⟨lw_p62, List.forall_mem_cons.mpr ⟨lw_p63, fun _ h => absurd h List.not_mem_nil⟩⟩⟩⟩⟩⟩⟩⟩⟩⟩⟩⟩⟩⟩⟩⟩
theorem lw_p64 : lw_okq (⟨"PassingTrackModel", "greatestDelay", "()I"⟩, 30) := ⟨⟨by decide +kernel, by decide +kernel⟩, List.mem_of_getElem? (i := 690) (by decide +kernel), List.mem_of_getElem? (i := 987) (by decide +kernel), List.mem_of_getElem? (i := 988) (by decide +kernel)⟩
theorem lw_p65 : lw_okq (⟨"PassingTrackModel", "placeIn", "(II)I"⟩, 30) := ⟨⟨by decide +kernel, by decide +kernel⟩, List.mem_of_getElem? (i := 690) (by decide +kernel), List.mem_of_getElem? (i := 995) (by decide +kernel), List.mem_of_getElem? (i := 996) (by decide +kernel)⟩
theorem lw_p66 : lw_okq (⟨"PassingTrackModel", "stationIn", "(II)I"⟩, 30) := ⟨⟨by decide +kernel, by decide +kernel⟩, List.mem_of_getElem? (i := 690) (by decide +kernel), List.mem_of_getElem? (i := 999) (by decide +kernel), List.mem_of_getElem? (i := 1000) (by decide +kernel)⟩
theorem lw_p67 : lw_okq (⟨"PassingTrackModel", "hasLeft", "(III)Z"⟩, 30) := ⟨⟨by decide +kernel, by decide +kernel⟩, List.mem_of_getElem? (i := 690) (by decide +kernel), List.mem_of_getElem? (i := 1003) (by decide +kernel), List.mem_of_getElem? (i := 1004) (by decide +kernel)⟩
theorem lw_p68 : lw_okq (⟨"PassingTrackModel", "reasonIn", "(II)I"⟩, 30) := ⟨⟨by decide +kernel, by decide +kernel⟩, List.mem_of_getElem? (i := 690) (by decide +kernel), List.mem_of_getElem? (i := 1015) (by decide +kernel), List.mem_of_getElem? (i := 1016) (by decide +kernel)⟩
theorem lw_p69 : lw_okq (⟨"PassingTrackModel", "ahead", "(I)I"⟩, 30) := ⟨⟨by decide +kernel, by decide +kernel⟩, List.mem_of_getElem? (i := 690) (by decide +kernel), List.mem_of_getElem? (i := 1023) (by decide +kernel), List.mem_of_getElem? (i := 1024) (by decide +kernel)⟩
theorem lw_p70 : lw_okq (⟨"PassingTrackModel", "isAhead", "(II)Z"⟩, 30) := ⟨⟨by decide +kernel, by decide +kernel⟩, List.mem_of_getElem? (i := 690) (by decide +kernel), List.mem_of_getElem? (i := 1027) (by decide +kernel), List.mem_of_getElem? (i := 1028) (by decide +kernel)⟩
theorem lw_p71 : lw_okq (⟨"PassingTrackModel", "layAside", "()V"⟩, 30) := ⟨⟨by decide +kernel, by decide +kernel⟩, List.mem_of_getElem? (i := 690) (by decide +kernel), List.mem_of_getElem? (i := 1035) (by decide +kernel), List.mem_of_getElem? (i := 1036) (by decide +kernel)⟩
theorem lw_p72 : lw_okq (⟨"PassingTrackModel", "delayNow", "()I"⟩, 30) := ⟨⟨by decide +kernel, by decide +kernel⟩, List.mem_of_getElem? (i := 690) (by decide +kernel), List.mem_of_getElem? (i := 1039) (by decide +kernel), List.mem_of_getElem? (i := 1040) (by decide +kernel)⟩
theorem lw_p73 : lw_okq (⟨"PassingTrackModel", "layBack", "()V"⟩, 30) := ⟨⟨by decide +kernel, by decide +kernel⟩, List.mem_of_getElem? (i := 690) (by decide +kernel), List.mem_of_getElem? (i := 1043) (by decide +kernel), List.mem_of_getElem? (i := 1044) (by decide +kernel)⟩
theorem lw_p74 : lw_okq (⟨"PassingTrackModel", "orders", "()I"⟩, 30) := ⟨⟨by decide +kernel, by decide +kernel⟩, List.mem_of_getElem? (i := 690) (by decide +kernel), List.mem_of_getElem? (i := 1059) (by decide +kernel), List.mem_of_getElem? (i := 1060) (by decide +kernel)⟩
theorem lw_p75 : lw_okq (⟨"PassingTrackModel", "layOrder", "(I)Z"⟩, 30) := ⟨⟨by decide +kernel, by decide +kernel⟩, List.mem_of_getElem? (i := 690) (by decide +kernel), List.mem_of_getElem? (i := 1063) (by decide +kernel), List.mem_of_getElem? (i := 1064) (by decide +kernel)⟩
theorem lw_p76 : lw_okq (⟨"PassingTrackModel", "delayInOrder", "()I"⟩, 30) := ⟨⟨by decide +kernel, by decide +kernel⟩, List.mem_of_getElem? (i := 690) (by decide +kernel), List.mem_of_getElem? (i := 1067) (by decide +kernel), List.mem_of_getElem? (i := 1068) (by decide +kernel)⟩
theorem lw_p77 : lw_okq (⟨"PassingTrackModel", "takeOrder", "()V"⟩, 30) := ⟨⟨by decide +kernel, by decide +kernel⟩, List.mem_of_getElem? (i := 690) (by decide +kernel), List.mem_of_getElem? (i := 1084) (by decide +kernel), List.mem_of_getElem? (i := 1085) (by decide +kernel)⟩
theorem lw_p78 : lw_okq (⟨"PassingTrackModel", "next", "()I"⟩, 30) := ⟨⟨by decide +kernel, by decide +kernel⟩, List.mem_of_getElem? (i := 690) (by decide +kernel), List.mem_of_getElem? (i := 1088) (by decide +kernel), List.mem_of_getElem? (i := 1089) (by decide +kernel)⟩
theorem lw_p79 : lw_okq (⟨"PassingTrackModel", "takeShuttle", "()V"⟩, 30) := ⟨⟨by decide +kernel, by decide +kernel⟩, List.mem_of_getElem? (i := 690) (by decide +kernel), List.mem_of_getElem? (i := 1092) (by decide +kernel), List.mem_of_getElem? (i := 1093) (by decide +kernel)⟩
def lw_privs_5 : List (MethodName × Nat) := [(⟨"PassingTrackModel", "greatestDelay", "()I"⟩, 30), (⟨"PassingTrackModel", "placeIn", "(II)I"⟩, 30), (⟨"PassingTrackModel", "stationIn", "(II)I"⟩, 30), (⟨"PassingTrackModel", "hasLeft", "(III)Z"⟩, 30), (⟨"PassingTrackModel", "reasonIn", "(II)I"⟩, 30), (⟨"PassingTrackModel", "ahead", "(I)I"⟩, 30), (⟨"PassingTrackModel", "isAhead", "(II)Z"⟩, 30), (⟨"PassingTrackModel", "layAside", "()V"⟩, 30), (⟨"PassingTrackModel", "delayNow", "()I"⟩, 30), (⟨"PassingTrackModel", "layBack", "()V"⟩, 30), (⟨"PassingTrackModel", "orders", "()I"⟩, 30), (⟨"PassingTrackModel", "layOrder", "(I)Z"⟩, 30), (⟨"PassingTrackModel", "delayInOrder", "()I"⟩, 30), (⟨"PassingTrackModel", "takeOrder", "()V"⟩, 30), (⟨"PassingTrackModel", "next", "()I"⟩, 30), (⟨"PassingTrackModel", "takeShuttle", "()V"⟩, 30)]
theorem lw_r5 : ∀ q ∈ lw_privs_5, lw_okq q := List.forall_mem_cons.mpr ⟨lw_p64, List.forall_mem_cons.mpr ⟨lw_p65, List.forall_mem_cons.mpr ⟨lw_p66, List.forall_mem_cons.mpr ⟨lw_p67, List.forall_mem_cons.mpr ⟨lw_p68, List.forall_mem_cons.mpr ⟨lw_p69, List.forall_mem_cons.mpr ⟨lw_p70, List.forall_mem_cons.mpr ⟨lw_p71, List.forall_mem_cons.mpr ⟨lw_p72, List.forall_mem_cons.mpr ⟨lw_p73, List.forall_mem_cons.mpr ⟨lw_p74, List.forall_mem_cons.mpr ⟨lw_p75, List.forall_mem_cons.mpr ⟨lw_p76, List.forall_mem_cons.mpr ⟨lw_p77, List.forall_mem_cons.mpr ⟨lw_p78, List.forall_mem_cons.mpr ⟨lw_p79, fun _ h => absurd h List.not_mem_nil⟩⟩⟩⟩⟩⟩⟩⟩⟩⟩⟩⟩⟩⟩⟩⟩
theorem lw_p80 : lw_okq (⟨"PassingTrackModel", "takeOne", "(II)V"⟩, 30) := ⟨⟨by decide +kernel, by decide +kernel⟩, List.mem_of_getElem? (i := 690) (by decide +kernel), List.mem_of_getElem? (i := 1096) (by decide +kernel), List.mem_of_getElem? (i := 1097) (by decide +kernel)⟩
theorem lw_p81 : lw_okq (⟨"PassingTrackModel", "takeSign", "(I)V"⟩, 30) := ⟨⟨by decide +kernel, by decide +kernel⟩, List.mem_of_getElem? (i := 690) (by decide +kernel), List.mem_of_getElem? (i := 1100) (by decide +kernel), List.mem_of_getElem? (i := 1101) (by decide +kernel)⟩
theorem lw_p82 : lw_okq (⟨"PassingTrackModel", "takeNumber", "(I)V"⟩, 30) := ⟨⟨by decide +kernel, by decide +kernel⟩, List.mem_of_getElem? (i := 690) (by decide +kernel), List.mem_of_getElem? (i := 1104) (by decide +kernel), List.mem_of_getElem? (i := 1105) (by decide +kernel)⟩
theorem lw_p83 : lw_okq (⟨"PassingTrackModel", "carry", "(I)I"⟩, 30) := ⟨⟨by decide +kernel, by decide +kernel⟩, List.mem_of_getElem? (i := 690) (by decide +kernel), List.mem_of_getElem? (i := 1113) (by decide +kernel), List.mem_of_getElem? (i := 1114) (by decide +kernel)⟩
def lw_privs_6 : List (MethodName × Nat) := [(⟨"PassingTrackModel", "takeOne", "(II)V"⟩, 30), (⟨"PassingTrackModel", "takeSign", "(I)V"⟩, 30), (⟨"PassingTrackModel", "takeNumber", "(I)V"⟩, 30), (⟨"PassingTrackModel", "carry", "(I)I"⟩, 30)]
theorem lw_r6 : ∀ q ∈ lw_privs_6, lw_okq q := List.forall_mem_cons.mpr ⟨lw_p80, List.forall_mem_cons.mpr ⟨lw_p81, List.forall_mem_cons.mpr ⟨lw_p82, List.forall_mem_cons.mpr ⟨lw_p83, fun _ h => absurd h List.not_mem_nil⟩⟩⟩⟩
def lw_privs : List (MethodName × Nat) := lw_privs_1 ++ (lw_privs_2 ++ (lw_privs_3 ++ (lw_privs_4 ++ (lw_privs_5 ++ (lw_privs_6)))))
def lw_tbl : List Cond := k2_sels lw_privs ++ tables_1
theorem lw_privs_ok : ∀ q ∈ lw_privs, lw_okq q := by
  show ∀ q ∈ lw_privs_1 ++ (lw_privs_2 ++ (lw_privs_3 ++ (lw_privs_4 ++ (lw_privs_5 ++ (lw_privs_6))))), lw_okq q
  exact List.forall_mem_append.mpr ⟨lw_r1, List.forall_mem_append.mpr ⟨lw_r2, List.forall_mem_append.mpr ⟨lw_r3, List.forall_mem_append.mpr ⟨lw_r4, List.forall_mem_append.mpr ⟨lw_r5, lw_r6⟩⟩⟩⟩⟩
end
section
def RX0 : String := "PassingTrack$Day"
def TX0 : u_T := fun k => match k with
  | 0 => ("PassingTrack$Day", "line", "LPassingTrack$Line;", true)
  | 1 => ("PassingTrack$Day", "comes", "[[I", true)
  | 2 => ("PassingTrack$Day", "leaves", "[[I", true)
  | 3 => ("PassingTrack$Day", "last", "I", false)
  | 4 => ("PassingTrack$Day", "stuck", "I", false)
  | 5 => ("PassingTrack$Day", "station", "[I", true)
  | 6 => ("PassingTrack$Day", "rides", "[Z", true)
  | 7 => ("PassingTrack$Day", "due", "[I", true)
  | 8 => ("PassingTrack$Day", "urgency", "[I", true)
  | 9 => ("PassingTrack$Day", "busy", "[Z", true)
  | _ => ("PassingTrack$Day", "held", "[I", true)
def tyX0 : Nat → FieldType := fun k => match k with
  | 0 => .object "PassingTrack$Line"
  | 1 => .array (.array .int)
  | 2 => .array (.array .int)
  | 3 => .int
  | 4 => .int
  | 5 => .array .int
  | 6 => .array .boolean
  | 7 => .array .int
  | 8 => .array .int
  | 9 => .array .boolean
  | _ => .array .int
theorem nmX0 : ∀ a, a < 11 → ∀ b, b < 11 → a ≠ b → (TX0 a).2.1 ≠ (TX0 b).2.1 := by decide +kernel
theorem tyX0_ok : ∀ k, k < 11 → parseFieldDescriptor (TX0 k).2.2.1 = some (tyX0 k) := by decide +kernel
abbrev cX0_init : ByteArray := prog_2_method_1_code
def yX0_init : MethodName := ⟨RX0, "<init>", "()V"⟩
abbrev cX0_run : ByteArray := prog_2_method_2_code
def yX0_run : MethodName := ⟨RX0, "run", "()V"⟩
abbrev cX0_putOutside : ByteArray := prog_2_method_3_code
def yX0_putOutside : MethodName := ⟨RX0, "putOutside", "()V"⟩
abbrev cX0_stand : ByteArray := prog_2_method_4_code
def yX0_stand : MethodName := ⟨RX0, "stand", "(III)V"⟩
abbrev cX0_isAtEnd : ByteArray := prog_2_method_5_code
def yX0_isAtEnd : MethodName := ⟨RX0, "isAtEnd", "(I)Z"⟩
abbrev cX0_comeIn : ByteArray := prog_2_method_6_code
def yX0_comeIn : MethodName := ⟨RX0, "comeIn", "(I)V"⟩
abbrev cX0_letLeave : ByteArray := prog_2_method_7_code
def yX0_letLeave : MethodName := ⟨RX0, "letLeave", "(I)V"⟩
abbrev cX0_firstToLeave : ByteArray := prog_2_method_8_code
def yX0_firstToLeave : MethodName := ⟨RX0, "firstToLeave", "(I)I"⟩
abbrev cX0_canLeave : ByteArray := prog_2_method_9_code
def yX0_canLeave : MethodName := ⟨RX0, "canLeave", "(II)Z"⟩
abbrev cX0_goesBefore : ByteArray := prog_2_method_10_code
def yX0_goesBefore : MethodName := ⟨RX0, "goesBefore", "(II)Z"⟩
abbrev cX0_leave : ByteArray := prog_2_method_11_code
def yX0_leave : MethodName := ⟨RX0, "leave", "(II)V"⟩
abbrev cX0_nextEvent : ByteArray := prog_2_method_12_code
def yX0_nextEvent : MethodName := ⟨RX0, "nextEvent", "(I)I"⟩
abbrev cX0_notAtEnd : ByteArray := prog_2_method_13_code
def yX0_notAtEnd : MethodName := ⟨RX0, "notAtEnd", "()I"⟩
abbrev cX0_endMinute : ByteArray := prog_2_method_14_code
def yX0_endMinute : MethodName := ⟨RX0, "endMinute", "(I)I"⟩
abbrev cX0_delayOf : ByteArray := prog_2_method_15_code
def yX0_delayOf : MethodName := ⟨RX0, "delayOf", "(I)I"⟩
abbrev cX0_delay : ByteArray := prog_2_method_16_code
def yX0_delay : MethodName := ⟨RX0, "delay", "()I"⟩
abbrev cX0_greatestDelay : ByteArray := prog_2_method_17_code
def yX0_greatestDelay : MethodName := ⟨RX0, "greatestDelay", "()I"⟩
abbrev cX0_wasOnTrack : ByteArray := prog_2_method_18_code
def yX0_wasOnTrack : MethodName := ⟨RX0, "wasOnTrack", "(II)Z"⟩
abbrev cX0_stoodAt : ByteArray := prog_2_method_19_code
def yX0_stoodAt : MethodName := ⟨RX0, "stoodAt", "(II)Z"⟩
abbrev cX0_readyAt : ByteArray := prog_2_method_20_code
def yX0_readyAt : MethodName := ⟨RX0, "readyAt", "(II)I"⟩
abbrev cX0_goneFrom : ByteArray := prog_2_method_21_code
def yX0_goneFrom : MethodName := ⟨RX0, "goneFrom", "(II)I"⟩
abbrev cX0_waitedMinutes : ByteArray := prog_2_method_22_code
def yX0_waitedMinutes : MethodName := ⟨RX0, "waitedMinutes", "()I"⟩
abbrev cX0_placeAt : ByteArray := prog_2_method_23_code
def yX0_placeAt : MethodName := ⟨RX0, "placeAt", "(II)I"⟩
abbrev cX0_reasonAt : ByteArray := prog_2_method_24_code
def yX0_reasonAt : MethodName := ⟨RX0, "reasonAt", "(II)I"⟩
abbrev cX0_reasonFor : ByteArray := prog_2_method_25_code
def yX0_reasonFor : MethodName := ⟨RX0, "reasonFor", "(II)I"⟩
abbrev cX0_minutesOn : ByteArray := prog_2_method_26_code
def yX0_minutesOn : MethodName := ⟨RX0, "minutesOn", "(IIII)I"⟩
def RX1 : String := "PassingTrack$History"
def TX1 : u_T := fun k => match k with
  | 0 => ("PassingTrack$History", "kept", "I", false)
  | _ => ("PassingTrack$History", "states", "[LPassingTrack$Line;", true)
def tyX1 : Nat → FieldType := fun k => match k with
  | 0 => .int
  | _ => .array (.object "PassingTrack$Line")
theorem nmX1 : ∀ a, a < 2 → ∀ b, b < 2 → a ≠ b → (TX1 a).2.1 ≠ (TX1 b).2.1 := by decide +kernel
theorem tyX1_ok : ∀ k, k < 2 → parseFieldDescriptor (TX1 k).2.2.1 = some (tyX1 k) := by decide +kernel
abbrev cX1_init : ByteArray := prog_3_method_1_code
def yX1_init : MethodName := ⟨RX1, "<init>", "()V"⟩
abbrev cX1_keep : ByteArray := prog_3_method_2_code
def yX1_keep : MethodName := ⟨RX1, "keep", "(LPassingTrack$Line;)V"⟩
abbrev cX1_dropOldest : ByteArray := prog_3_method_3_code
def yX1_dropOldest : MethodName := ⟨RX1, "dropOldest", "()V"⟩
abbrev cX1_giveBack : ByteArray := prog_3_method_4_code
def yX1_giveBack : MethodName := ⟨RX1, "giveBack", "(LPassingTrack$Line;)I"⟩
def RX2 : String := "PassingTrack$Line"
def TX2 : u_T := fun k => match k with
  | 0 => ("PassingTrack$Line", "tracksOf", "[I", true)
  | 1 => ("PassingTrack$Line", "runningOf", "[I", true)
  | 2 => ("PassingTrack$Line", "begin", "[I", true)
  | 3 => ("PassingTrack$Line", "end", "[I", true)
  | 4 => ("PassingTrack$Line", "earliest", "[I", true)
  | 5 => ("PassingTrack$Line", "stop", "[I", true)
  | 6 => ("PassingTrack$Line", "priority", "[I", true)
  | 7 => ("PassingTrack$Line", "shuttles", "I", false)
  | _ => ("PassingTrack$Line", "whoGoesFirst", "I", false)
def tyX2 : Nat → FieldType := fun k => match k with
  | 0 => .array .int
  | 1 => .array .int
  | 2 => .array .int
  | 3 => .array .int
  | 4 => .array .int
  | 5 => .array .int
  | 6 => .array .int
  | 7 => .int
  | _ => .int
theorem nmX2 : ∀ a, a < 9 → ∀ b, b < 9 → a ≠ b → (TX2 a).2.1 ≠ (TX2 b).2.1 := by decide +kernel
theorem tyX2_ok : ∀ k, k < 9 → parseFieldDescriptor (TX2 k).2.2.1 = some (tyX2 k) := by decide +kernel
abbrev cX2_init : ByteArray := prog_4_method_1_code
def yX2_init : MethodName := ⟨RX2, "<init>", "()V"⟩
abbrev cX2_copyFrom : ByteArray := prog_4_method_2_code
def yX2_copyFrom : MethodName := ⟨RX2, "copyFrom", "(LPassingTrack$Line;)V"⟩
abbrev cX2_hasShuttle : ByteArray := prog_4_method_3_code
def yX2_hasShuttle : MethodName := ⟨RX2, "hasShuttle", "(I)Z"⟩
abbrev cX2_setFirst : ByteArray := prog_4_method_4_code
def yX2_setFirst : MethodName := ⟨RX2, "setFirst", "(I)I"⟩
abbrev cX2_setTracks : ByteArray := prog_4_method_5_code
def yX2_setTracks : MethodName := ⟨RX2, "setTracks", "(II)I"⟩
abbrev cX2_setRunning : ByteArray := prog_4_method_6_code
def yX2_setRunning : MethodName := ⟨RX2, "setRunning", "(II)I"⟩
abbrev cX2_addShuttle : ByteArray := prog_4_method_7_code
def yX2_addShuttle : MethodName := ⟨RX2, "addShuttle", "(IIIII)I"⟩
abbrev cX2_startLater : ByteArray := prog_4_method_8_code
def yX2_startLater : MethodName := ⟨RX2, "startLater", "(II)I"⟩
abbrev cX2_setPriority : ByteArray := prog_4_method_9_code
def yX2_setPriority : MethodName := ⟨RX2, "setPriority", "(II)I"⟩
abbrev cX2_takeAway : ByteArray := prog_4_method_10_code
def yX2_takeAway : MethodName := ⟨RX2, "takeAway", "(I)I"⟩
abbrev cX2_number : ByteArray := prog_4_method_11_code
def yX2_number : MethodName := ⟨RX2, "number", "(II)I"⟩
abbrev cX2_goesUp : ByteArray := prog_4_method_12_code
def yX2_goesUp : MethodName := ⟨RX2, "goesUp", "(I)Z"⟩
abbrev cX2_nextStation : ByteArray := prog_4_method_13_code
def yX2_nextStation : MethodName := ⟨RX2, "nextStation", "(II)I"⟩
abbrev cX2_stretchAhead : ByteArray := prog_4_method_14_code
def yX2_stretchAhead : MethodName := ⟨RX2, "stretchAhead", "(II)I"⟩
abbrev cX2_wayLeft : ByteArray := prog_4_method_15_code
def yX2_wayLeft : MethodName := ⟨RX2, "wayLeft", "(II)I"⟩
def RX3 : String := "PassingTrack$Meetings"
def TX3 : u_T := fun k => match k with
  | 0 => ("PassingTrack$Meetings", "rows", "[I", true)
  | _ => ("PassingTrack$Meetings", "number", "I", false)
def tyX3 : Nat → FieldType := fun k => match k with
  | 0 => .array .int
  | _ => .int
theorem nmX3 : ∀ a, a < 2 → ∀ b, b < 2 → a ≠ b → (TX3 a).2.1 ≠ (TX3 b).2.1 := by decide +kernel
theorem tyX3_ok : ∀ k, k < 2 → parseFieldDescriptor (TX3 k).2.2.1 = some (tyX3 k) := by decide +kernel
abbrev cX3_init : ByteArray := prog_5_method_1_code
def yX3_init : MethodName := ⟨RX3, "<init>", "()V"⟩
abbrev cX3_gather : ByteArray := prog_5_method_2_code
def yX3_gather : MethodName := ⟨RX3, "gather", "(LPassingTrack$Day;)V"⟩
abbrev cX3_gatherPair : ByteArray := prog_5_method_3_code
def yX3_gatherPair : MethodName := ⟨RX3, "gatherPair", "(LPassingTrack$Day;II)V"⟩
abbrev cX3_isThere : ByteArray := prog_5_method_4_code
def yX3_isThere : MethodName := ⟨RX3, "isThere", "(LPassingTrack$Day;III)Z"⟩
abbrev cX3_insert : ByteArray := prog_5_method_5_code
def yX3_insert : MethodName := ⟨RX3, "insert", "(I)V"⟩
abbrev cX3_part : ByteArray := prog_5_method_6_code
def yX3_part : MethodName := ⟨RX3, "part", "(II)I"⟩
def RX4 : String := "PassingTrack$Orders"
def TX4 : u_T := fun k => match k with
  | 0 => ("PassingTrack$Orders", "best", "[I", true)
  | 1 => ("PassingTrack$Orders", "bestDelay", "I", false)
  | _ => ("PassingTrack$Orders", "order", "[I", true)
def tyX4 : Nat → FieldType := fun k => match k with
  | 0 => .array .int
  | 1 => .int
  | _ => .array .int
theorem nmX4 : ∀ a, a < 3 → ∀ b, b < 3 → a ≠ b → (TX4 a).2.1 ≠ (TX4 b).2.1 := by decide +kernel
theorem tyX4_ok : ∀ k, k < 3 → parseFieldDescriptor (TX4 k).2.2.1 = some (tyX4 k) := by decide +kernel
abbrev cX4_init : ByteArray := prog_6_method_1_code
def yX4_init : MethodName := ⟨RX4, "<init>", "()V"⟩
abbrev cX4_tryAll : ByteArray := prog_6_method_2_code
def yX4_tryAll : MethodName := ⟨RX4, "tryAll", "(LPassingTrack$Day;)V"⟩
abbrev cX4_keepIfBetter : ByteArray := prog_6_method_3_code
def yX4_keepIfBetter : MethodName := ⟨RX4, "keepIfBetter", "(II)V"⟩
abbrev cX4_nextOrder : ByteArray := prog_6_method_4_code
def yX4_nextOrder : MethodName := ⟨RX4, "nextOrder", "(I)Z"⟩
abbrev cX4_swap : ByteArray := prog_6_method_5_code
def yX4_swap : MethodName := ⟨RX4, "swap", "(II)V"⟩
def RX5 : String := "PassingTrack$Pad"
def TX5 : u_T := fun k => match k with
  | 0 => ("PassingTrack$Pad", "length", "I", false)
  | 1 => ("PassingTrack$Pad", "text", "[C", true)
  | 2 => ("PassingTrack$Pad", "next", "I", false)
  | 3 => ("PassingTrack$Pad", "kind", "I", false)
  | _ => ("PassingTrack$Pad", "numbers", "[I", true)
def tyX5 : Nat → FieldType := fun k => match k with
  | 0 => .int
  | 1 => .array .char
  | 2 => .int
  | 3 => .int
  | _ => .array .int
theorem nmX5 : ∀ a, a < 5 → ∀ b, b < 5 → a ≠ b → (TX5 a).2.1 ≠ (TX5 b).2.1 := by decide +kernel
theorem tyX5_ok : ∀ k, k < 5 → parseFieldDescriptor (TX5 k).2.2.1 = some (tyX5 k) := by decide +kernel
abbrev cX5_init : ByteArray := prog_7_method_1_code
def yX5_init : MethodName := ⟨RX5, "<init>", "()V"⟩
abbrev cX5_charactersIn : ByteArray := prog_7_method_2_code
def yX5_charactersIn : MethodName := ⟨RX5, "charactersIn", "(J)I"⟩
abbrev cX5_append : ByteArray := prog_7_method_3_code
def yX5_append : MethodName := ⟨RX5, "append", "(JI)I"⟩
abbrev cX5_empty : ByteArray := prog_7_method_4_code
def yX5_empty : MethodName := ⟨RX5, "empty", "()I"⟩
abbrev cX5_findFault : ByteArray := prog_7_method_5_code
def yX5_findFault : MethodName := ⟨RX5, "findFault", "()I"⟩
abbrev cX5_obey : ByteArray := prog_7_method_6_code
def yX5_obey : MethodName := ⟨RX5, "obey", "(LPassingTrack$Line;)I"⟩
abbrev cX5_obeyOrder : ByteArray := prog_7_method_7_code
def yX5_obeyOrder : MethodName := ⟨RX5, "obeyOrder", "(LPassingTrack$Line;)I"⟩
abbrev cX5_readOrder : ByteArray := prog_7_method_8_code
def yX5_readOrder : MethodName := ⟨RX5, "readOrder", "()Z"⟩
abbrev cX5_readShuttle : ByteArray := prog_7_method_9_code
def yX5_readShuttle : MethodName := ⟨RX5, "readShuttle", "()Z"⟩
abbrev cX5_peek : ByteArray := prog_7_method_10_code
def yX5_peek : MethodName := ⟨RX5, "peek", "()I"⟩
abbrev cX5_readSign : ByteArray := prog_7_method_11_code
def yX5_readSign : MethodName := ⟨RX5, "readSign", "(C)Z"⟩
abbrev cX5_readDigit : ByteArray := prog_7_method_12_code
def yX5_readDigit : MethodName := ⟨RX5, "readDigit", "(II)Z"⟩
abbrev cX5_readNumber : ByteArray := prog_7_method_13_code
def yX5_readNumber : MethodName := ⟨RX5, "readNumber", "(I)Z"⟩
def RX6 : String := "PassingTrack$Waits"
def TX6 : u_T := fun k => match k with
  | 0 => ("PassingTrack$Waits", "reasons", "[I", true)
  | _ => ("PassingTrack$Waits", "blames", "[I", true)
def tyX6 : Nat → FieldType := fun k => match k with
  | 0 => .array .int
  | _ => .array .int
theorem nmX6 : ∀ a, a < 2 → ∀ b, b < 2 → a ≠ b → (TX6 a).2.1 ≠ (TX6 b).2.1 := by decide +kernel
theorem tyX6_ok : ∀ k, k < 2 → parseFieldDescriptor (TX6 k).2.2.1 = some (tyX6 k) := by decide +kernel
abbrev cX6_init : ByteArray := prog_8_method_1_code
def yX6_init : MethodName := ⟨RX6, "<init>", "()V"⟩
abbrev cX6_gather : ByteArray := prog_8_method_2_code
def yX6_gather : MethodName := ⟨RX6, "gather", "(LPassingTrack$Day;I)V"⟩
abbrev cX6_gatherAt : ByteArray := prog_8_method_3_code
def yX6_gatherAt : MethodName := ⟨RX6, "gatherAt", "(LPassingTrack$Day;II)V"⟩
abbrev cX6_forReason : ByteArray := prog_8_method_4_code
def yX6_forReason : MethodName := ⟨RX6, "forReason", "(I)I"⟩
abbrev cX6_total : ByteArray := prog_8_method_5_code
def yX6_total : MethodName := ⟨RX6, "total", "()I"⟩
abbrev cX6_mostBlamed : ByteArray := prog_8_method_6_code
def yX6_mostBlamed : MethodName := ⟨RX6, "mostBlamed", "()I"⟩
def RX7 : String := "PassingTrack"
def TX7 : u_T := fun k => match k with
  | 0 => ("PassingTrack", "day", "LPassingTrack$Day;", true)
  | 1 => ("PassingTrack", "line", "LPassingTrack$Line;", true)
  | 2 => ("PassingTrack", "trialDay", "LPassingTrack$Day;", true)
  | 3 => ("PassingTrack", "trial", "LPassingTrack$Line;", true)
  | 4 => ("PassingTrack", "before", "LPassingTrack$Line;", true)
  | 5 => ("PassingTrack", "waits", "LPassingTrack$Waits;", true)
  | 6 => ("PassingTrack", "meetings", "LPassingTrack$Meetings;", true)
  | 7 => ("PassingTrack", "orders", "LPassingTrack$Orders;", true)
  | 8 => ("PassingTrack", "pad", "LPassingTrack$Pad;", true)
  | 9 => ("PassingTrack", "history", "LPassingTrack$History;", true)
  | 10 => ("PassingTrack", "slots", "[LPassingTrack$Line;", true)
  | _ => ("PassingTrack", "saved", "[Z", true)
def tyX7 : Nat → FieldType := fun k => match k with
  | 0 => .object "PassingTrack$Day"
  | 1 => .object "PassingTrack$Line"
  | 2 => .object "PassingTrack$Day"
  | 3 => .object "PassingTrack$Line"
  | 4 => .object "PassingTrack$Line"
  | 5 => .object "PassingTrack$Waits"
  | 6 => .object "PassingTrack$Meetings"
  | 7 => .object "PassingTrack$Orders"
  | 8 => .object "PassingTrack$Pad"
  | 9 => .object "PassingTrack$History"
  | 10 => .array (.object "PassingTrack$Line")
  | _ => .array .boolean
theorem nmX7 : ∀ a, a < 12 → ∀ b, b < 12 → a ≠ b → (TX7 a).2.1 ≠ (TX7 b).2.1 := by decide +kernel
theorem tyX7_ok : ∀ k, k < 12 → parseFieldDescriptor (TX7 k).2.2.1 = some (tyX7 k) := by decide +kernel
abbrev cX7_init : ByteArray := prog_1_method_1_code
def yX7_init : MethodName := ⟨RX7, "<init>", "()V"⟩
abbrev cX7_first : ByteArray := prog_1_method_2_code
def yX7_first : MethodName := ⟨RX7, "first", "(I)I"⟩
abbrev cX7_tracks : ByteArray := prog_1_method_3_code
def yX7_tracks : MethodName := ⟨RX7, "tracks", "(II)I"⟩
abbrev cX7_running : ByteArray := prog_1_method_4_code
def yX7_running : MethodName := ⟨RX7, "running", "(II)I"⟩
abbrev cX7_shuttle : ByteArray := prog_1_method_5_code
def yX7_shuttle : MethodName := ⟨RX7, "shuttle", "(IIIII)I"⟩
abbrev cX7_late : ByteArray := prog_1_method_6_code
def yX7_late : MethodName := ⟨RX7, "late", "(II)I"⟩
abbrev cX7_prefer : ByteArray := prog_1_method_7_code
def yX7_prefer : MethodName := ⟨RX7, "prefer", "(II)I"⟩
abbrev cX7_remove : ByteArray := prog_1_method_8_code
def yX7_remove : MethodName := ⟨RX7, "remove", "(I)I"⟩
abbrev cX7_changed : ByteArray := prog_1_method_9_code
def yX7_changed : MethodName := ⟨RX7, "changed", "(I)I"⟩
abbrev cX7_ofShuttle : ByteArray := prog_1_method_10_code
def yX7_ofShuttle : MethodName := ⟨RX7, "ofShuttle", "(II)I"⟩
abbrev cX7_count : ByteArray := prog_1_method_11_code
def yX7_count : MethodName := ⟨RX7, "count", "(I)I"⟩
abbrev cX7_day : ByteArray := prog_1_method_12_code
def yX7_day : MethodName := ⟨RX7, "day", "(I)I"⟩
abbrev cX7_at : ByteArray := prog_1_method_13_code
def yX7_at : MethodName := ⟨RX7, "at", "(II)I"⟩
abbrev cX7_when : ByteArray := prog_1_method_14_code
def yX7_when : MethodName := ⟨RX7, "when", "(III)I"⟩
abbrev cX7_why : ByteArray := prog_1_method_15_code
def yX7_why : MethodName := ⟨RX7, "why", "(II)I"⟩
abbrev cX7_meeting : ByteArray := prog_1_method_16_code
def yX7_meeting : MethodName := ⟨RX7, "meeting", "(II)I"⟩
abbrev cX7_delayIfLate : ByteArray := prog_1_method_17_code
def yX7_delayIfLate : MethodName := ⟨RX7, "delayIfLate", "(II)I"⟩
abbrev cX7_delayIfSlow : ByteArray := prog_1_method_18_code
def yX7_delayIfSlow : MethodName := ⟨RX7, "delayIfSlow", "(II)I"⟩
abbrev cX7_bestTrack : ByteArray := prog_1_method_19_code
def yX7_bestTrack : MethodName := ⟨RX7, "bestTrack", "(I)I"⟩
abbrev cX7_bestOrder : ByteArray := prog_1_method_20_code
def yX7_bestOrder : MethodName := ⟨RX7, "bestOrder", "(I)I"⟩
abbrev cX7_trialDelay : ByteArray := prog_1_method_21_code
def yX7_trialDelay : MethodName := ⟨RX7, "trialDelay", "()I"⟩
abbrev cX7_put : ByteArray := prog_1_method_22_code
def yX7_put : MethodName := ⟨RX7, "put", "(J)I"⟩
abbrev cX7_wipe : ByteArray := prog_1_method_23_code
def yX7_wipe : MethodName := ⟨RX7, "wipe", "()I"⟩
abbrev cX7_fault : ByteArray := prog_1_method_24_code
def yX7_fault : MethodName := ⟨RX7, "fault", "()I"⟩
abbrev cX7_carryOut : ByteArray := prog_1_method_25_code
def yX7_carryOut : MethodName := ⟨RX7, "carryOut", "()I"⟩
abbrev cX7_undo : ByteArray := prog_1_method_26_code
def yX7_undo : MethodName := ⟨RX7, "undo", "()I"⟩
abbrev cX7_save : ByteArray := prog_1_method_27_code
def yX7_save : MethodName := ⟨RX7, "save", "(I)I"⟩
abbrev cX7_restore : ByteArray := prog_1_method_28_code
def yX7_restore : MethodName := ⟨RX7, "restore", "(I)I"⟩
abbrev cX7_isSlot : ByteArray := prog_1_method_29_code
def yX7_isSlot : MethodName := ⟨RX7, "isSlot", "(I)Z"⟩
abbrev cX7_isStation : ByteArray := prog_1_method_30_code
def yX7_isStation : MethodName := ⟨RX7, "isStation", "(I)Z"⟩
abbrev cX7_isStretch : ByteArray := prog_1_method_31_code
def yX7_isStretch : MethodName := ⟨RX7, "isStretch", "(I)Z"⟩
def RX8 : String := "PassingTrackModel"
def TX8 : u_T := fun k => match k with
  | 0 => ("PassingTrackModel", "at", "[I", true)
  | 1 => ("PassingTrackModel", "past", "[I", true)
  | 2 => ("PassingTrackModel", "pastFirst", "I", false)
  | 3 => ("PassingTrackModel", "pastMany", "I", false)
  | 4 => ("PassingTrackModel", "slots", "[I", true)
  | 5 => ("PassingTrackModel", "isSaved", "[Z", true)
  | 6 => ("PassingTrackModel", "aside", "[I", true)
  | 7 => ("PassingTrackModel", "where", "[I", true)
  | 8 => ("PassingTrackModel", "place", "[I", true)
  | 9 => ("PassingTrackModel", "since", "[I", true)
  | 10 => ("PassingTrackModel", "comes", "[I", true)
  | 11 => ("PassingTrackModel", "readies", "[I", true)
  | 12 => ("PassingTrackModel", "leaves", "[I", true)
  | 13 => ("PassingTrackModel", "meets", "[I", true)
  | 14 => ("PassingTrackModel", "meetsAt", "[I", true)
  | 15 => ("PassingTrackModel", "blames", "[I", true)
  | 16 => ("PassingTrackModel", "waits", "[I", true)
  | 17 => ("PassingTrackModel", "last", "I", false)
  | 18 => ("PassingTrackModel", "stuck", "I", false)
  | 19 => ("PassingTrackModel", "ran", "[I", true)
  | 20 => ("PassingTrackModel", "hasRun", "Z", false)
  | 21 => ("PassingTrackModel", "order", "[I", true)
  | 22 => ("PassingTrackModel", "bestOne", "[I", true)
  | 23 => ("PassingTrackModel", "pad", "[I", true)
  | 24 => ("PassingTrackModel", "padMany", "I", false)
  | 25 => ("PassingTrackModel", "spot", "I", false)
  | 26 => ("PassingTrackModel", "isWrong", "Z", false)
  | 27 => ("PassingTrackModel", "read", "I", false)
  | 28 => ("PassingTrackModel", "sort", "[I", true)
  | _ => ("PassingTrackModel", "numbers", "[I", true)
def tyX8 : Nat → FieldType := fun k => match k with
  | 0 => .array .int
  | 1 => .array .int
  | 2 => .int
  | 3 => .int
  | 4 => .array .int
  | 5 => .array .boolean
  | 6 => .array .int
  | 7 => .array .int
  | 8 => .array .int
  | 9 => .array .int
  | 10 => .array .int
  | 11 => .array .int
  | 12 => .array .int
  | 13 => .array .int
  | 14 => .array .int
  | 15 => .array .int
  | 16 => .array .int
  | 17 => .int
  | 18 => .int
  | 19 => .array .int
  | 20 => .boolean
  | 21 => .array .int
  | 22 => .array .int
  | 23 => .array .int
  | 24 => .int
  | 25 => .int
  | 26 => .boolean
  | 27 => .int
  | 28 => .array .int
  | _ => .array .int
theorem nmX8 : ∀ a, a < 30 → ∀ b, b < 30 → a ≠ b → (TX8 a).2.1 ≠ (TX8 b).2.1 := by decide +kernel
theorem tyX8_ok : ∀ k, k < 30 → parseFieldDescriptor (TX8 k).2.2.1 = some (tyX8 k) := by decide +kernel
abbrev cX8_init : ByteArray := prog_10_method_1_code
def yX8_init : MethodName := ⟨RX8, "<init>", "()V"⟩
abbrev cX8_in : ByteArray := prog_10_method_3_code
def yX8_in : MethodName := ⟨RX8, "in", "(III)Z"⟩
abbrev cX8_isStation : ByteArray := prog_10_method_4_code
def yX8_isStation : MethodName := ⟨RX8, "isStation", "(I)Z"⟩
abbrev cX8_isShuttle : ByteArray := prog_10_method_5_code
def yX8_isShuttle : MethodName := ⟨RX8, "isShuttle", "(I)Z"⟩
abbrev cX8_of : ByteArray := prog_10_method_6_code
def yX8_of : MethodName := ⟨RX8, "of", "(II)I"⟩
abbrev cX8_way : ByteArray := prog_10_method_7_code
def yX8_way : MethodName := ⟨RX8, "way", "(I)I"⟩
abbrev cX8_keep : ByteArray := prog_10_method_8_code
def yX8_keep : MethodName := ⟨RX8, "keep", "()V"⟩
abbrev cX8_keepIf : ByteArray := prog_10_method_9_code
def yX8_keepIf : MethodName := ⟨RX8, "keepIf", "(Z)V"⟩
abbrev cX8_layAside : ByteArray := prog_10_method_10_code
def yX8_layAside : MethodName := ⟨RX8, "layAside", "()V"⟩
abbrev cX8_layBack : ByteArray := prog_10_method_11_code
def yX8_layBack : MethodName := ⟨RX8, "layBack", "()V"⟩
abbrev cX8_beginDay : ByteArray := prog_10_method_12_code
def yX8_beginDay : MethodName := ⟨RX8, "beginDay", "()V"⟩
abbrev cX8_stretchFrom : ByteArray := prog_10_method_13_code
def yX8_stretchFrom : MethodName := ⟨RX8, "stretchFrom", "(II)I"⟩
abbrev cX8_come : ByteArray := prog_10_method_14_code
def yX8_come : MethodName := ⟨RX8, "come", "(I)V"⟩
abbrev cX8_meet : ByteArray := prog_10_method_15_code
def yX8_meet : MethodName := ⟨RX8, "meet", "(I)V"⟩
abbrev cX8_readyAt : ByteArray := prog_10_method_16_code
def yX8_readyAt : MethodName := ⟨RX8, "readyAt", "(I)I"⟩
abbrev cX8_isReady : ByteArray := prog_10_method_17_code
def yX8_isReady : MethodName := ⟨RX8, "isReady", "(II)Z"⟩
abbrev cX8_whoIsOn : ByteArray := prog_10_method_18_code
def yX8_whoIsOn : MethodName := ⟨RX8, "whoIsOn", "(I)I"⟩
abbrev cX8_taken : ByteArray := prog_10_method_19_code
def yX8_taken : MethodName := ⟨RX8, "taken", "(I)I"⟩
abbrev cX8_canLeave : ByteArray := prog_10_method_20_code
def yX8_canLeave : MethodName := ⟨RX8, "canLeave", "(II)Z"⟩
abbrev cX8_timeOf : ByteArray := prog_10_method_21_code
def yX8_timeOf : MethodName := ⟨RX8, "timeOf", "(II)I"⟩
abbrev cX8_goesAhead : ByteArray := prog_10_method_22_code
def yX8_goesAhead : MethodName := ⟨RX8, "goesAhead", "(II)Z"⟩
abbrev cX8_nextToLeave : ByteArray := prog_10_method_23_code
def yX8_nextToLeave : MethodName := ⟨RX8, "nextToLeave", "(I)I"⟩
abbrev cX8_leave : ByteArray := prog_10_method_24_code
def yX8_leave : MethodName := ⟨RX8, "leave", "(I)V"⟩
abbrev cX8_reason : ByteArray := prog_10_method_25_code
def yX8_reason : MethodName := ⟨RX8, "reason", "(I)I"⟩
abbrev cX8_waitAll : ByteArray := prog_10_method_26_code
def yX8_waitAll : MethodName := ⟨RX8, "waitAll", "(I)V"⟩
abbrev cX8_ends : ByteArray := prog_10_method_27_code
def yX8_ends : MethodName := ⟨RX8, "ends", "(I)Z"⟩
abbrev cX8_isAsRun : ByteArray := prog_10_method_28_code
def yX8_isAsRun : MethodName := ⟨RX8, "isAsRun", "()Z"⟩
abbrev cX8_run : ByteArray := prog_10_method_29_code
def yX8_run : MethodName := ⟨RX8, "run", "()V"⟩
abbrev cX8_endOf : ByteArray := prog_10_method_30_code
def yX8_endOf : MethodName := ⟨RX8, "endOf", "(I)I"⟩
abbrev cX8_delayOf : ByteArray := prog_10_method_31_code
def yX8_delayOf : MethodName := ⟨RX8, "delayOf", "(I)I"⟩
abbrev cX8_delay : ByteArray := prog_10_method_32_code
def yX8_delay : MethodName := ⟨RX8, "delay", "()I"⟩
abbrev cX8_delayNow : ByteArray := prog_10_method_33_code
def yX8_delayNow : MethodName := ⟨RX8, "delayNow", "()I"⟩
abbrev cX8_first : ByteArray := prog_10_method_34_code
def yX8_first : MethodName := ⟨RX8, "first", "(I)I"⟩
abbrev cX8_change : ByteArray := prog_10_method_35_code
def yX8_change : MethodName := ⟨RX8, "change", "(IIZ)I"⟩
abbrev cX8_tryTracks : ByteArray := prog_10_method_36_code
def yX8_tryTracks : MethodName := ⟨RX8, "tryTracks", "(IIZ)I"⟩
abbrev cX8_tracks : ByteArray := prog_10_method_37_code
def yX8_tracks : MethodName := ⟨RX8, "tracks", "(II)I"⟩
abbrev cX8_whyNotRun : ByteArray := prog_10_method_38_code
def yX8_whyNotRun : MethodName := ⟨RX8, "whyNotRun", "(II)I"⟩
abbrev cX8_tryRunning : ByteArray := prog_10_method_39_code
def yX8_tryRunning : MethodName := ⟨RX8, "tryRunning", "(IIZ)I"⟩
abbrev cX8_running : ByteArray := prog_10_method_40_code
def yX8_running : MethodName := ⟨RX8, "running", "(II)I"⟩
abbrev cX8_tryShuttle : ByteArray := prog_10_method_41_code
def yX8_tryShuttle : MethodName := ⟨RX8, "tryShuttle", "(IIIIIZ)I"⟩
abbrev cX8_shuttle : ByteArray := prog_10_method_42_code
def yX8_shuttle : MethodName := ⟨RX8, "shuttle", "(IIIII)I"⟩
abbrev cX8_whyNotLate : ByteArray := prog_10_method_43_code
def yX8_whyNotLate : MethodName := ⟨RX8, "whyNotLate", "(II)I"⟩
abbrev cX8_tryLate : ByteArray := prog_10_method_44_code
def yX8_tryLate : MethodName := ⟨RX8, "tryLate", "(IIZ)I"⟩
abbrev cX8_late : ByteArray := prog_10_method_45_code
def yX8_late : MethodName := ⟨RX8, "late", "(II)I"⟩
abbrev cX8_tryPrefer : ByteArray := prog_10_method_46_code
def yX8_tryPrefer : MethodName := ⟨RX8, "tryPrefer", "(IIZ)I"⟩
abbrev cX8_prefer : ByteArray := prog_10_method_47_code
def yX8_prefer : MethodName := ⟨RX8, "prefer", "(II)I"⟩
abbrev cX8_tryRemove : ByteArray := prog_10_method_48_code
def yX8_tryRemove : MethodName := ⟨RX8, "tryRemove", "(IZ)I"⟩
abbrev cX8_remove : ByteArray := prog_10_method_49_code
def yX8_remove : MethodName := ⟨RX8, "remove", "(I)I"⟩
abbrev cX8_waited : ByteArray := prog_10_method_50_code
def yX8_waited : MethodName := ⟨RX8, "waited", "(I)I"⟩
abbrev cX8_blamed : ByteArray := prog_10_method_51_code
def yX8_blamed : MethodName := ⟨RX8, "blamed", "(I)I"⟩
abbrev cX8_ofShuttle : ByteArray := prog_10_method_52_code
def yX8_ofShuttle : MethodName := ⟨RX8, "ofShuttle", "(II)I"⟩
abbrev cX8_count : ByteArray := prog_10_method_53_code
def yX8_count : MethodName := ⟨RX8, "count", "(I)I"⟩
abbrev cX8_meetings : ByteArray := prog_10_method_54_code
def yX8_meetings : MethodName := ⟨RX8, "meetings", "()I"⟩
abbrev cX8_allWaits : ByteArray := prog_10_method_55_code
def yX8_allWaits : MethodName := ⟨RX8, "allWaits", "()I"⟩
abbrev cX8_greatestDelay : ByteArray := prog_10_method_56_code
def yX8_greatestDelay : MethodName := ⟨RX8, "greatestDelay", "()I"⟩
abbrev cX8_day : ByteArray := prog_10_method_57_code
def yX8_day : MethodName := ⟨RX8, "day", "(I)I"⟩
abbrev cX8_stationIn : ByteArray := prog_10_method_58_code
def yX8_stationIn : MethodName := ⟨RX8, "stationIn", "(II)I"⟩
abbrev cX8_hasLeft : ByteArray := prog_10_method_59_code
def yX8_hasLeft : MethodName := ⟨RX8, "hasLeft", "(III)Z"⟩
abbrev cX8_placeIn : ByteArray := prog_10_method_60_code
def yX8_placeIn : MethodName := ⟨RX8, "placeIn", "(II)I"⟩
abbrev cX8_at : ByteArray := prog_10_method_61_code
def yX8_at : MethodName := ⟨RX8, "at", "(II)I"⟩
abbrev cX8_when : ByteArray := prog_10_method_62_code
def yX8_when : MethodName := ⟨RX8, "when", "(III)I"⟩
abbrev cX8_reasonIn : ByteArray := prog_10_method_63_code
def yX8_reasonIn : MethodName := ⟨RX8, "reasonIn", "(II)I"⟩
abbrev cX8_why : ByteArray := prog_10_method_64_code
def yX8_why : MethodName := ⟨RX8, "why", "(II)I"⟩
abbrev cX8_isAhead : ByteArray := prog_10_method_65_code
def yX8_isAhead : MethodName := ⟨RX8, "isAhead", "(II)Z"⟩
abbrev cX8_ahead : ByteArray := prog_10_method_66_code
def yX8_ahead : MethodName := ⟨RX8, "ahead", "(I)I"⟩
abbrev cX8_meeting : ByteArray := prog_10_method_67_code
def yX8_meeting : MethodName := ⟨RX8, "meeting", "(II)I"⟩
abbrev cX8_delayIfLate : ByteArray := prog_10_method_68_code
def yX8_delayIfLate : MethodName := ⟨RX8, "delayIfLate", "(II)I"⟩
abbrev cX8_delayIfSlow : ByteArray := prog_10_method_69_code
def yX8_delayIfSlow : MethodName := ⟨RX8, "delayIfSlow", "(II)I"⟩
abbrev cX8_bestTrack : ByteArray := prog_10_method_70_code
def yX8_bestTrack : MethodName := ⟨RX8, "bestTrack", "(I)I"⟩
abbrev cX8_layOrder : ByteArray := prog_10_method_71_code
def yX8_layOrder : MethodName := ⟨RX8, "layOrder", "(I)Z"⟩
abbrev cX8_delayInOrder : ByteArray := prog_10_method_72_code
def yX8_delayInOrder : MethodName := ⟨RX8, "delayInOrder", "()I"⟩
abbrev cX8_orders : ByteArray := prog_10_method_73_code
def yX8_orders : MethodName := ⟨RX8, "orders", "()I"⟩
abbrev cX8_bestOrder : ByteArray := prog_10_method_74_code
def yX8_bestOrder : MethodName := ⟨RX8, "bestOrder", "(I)I"⟩
abbrev cX8_put : ByteArray := prog_10_method_75_code
def yX8_put : MethodName := ⟨RX8, "put", "(J)I"⟩
abbrev cX8_wipe : ByteArray := prog_10_method_76_code
def yX8_wipe : MethodName := ⟨RX8, "wipe", "()I"⟩
abbrev cX8_next : ByteArray := prog_10_method_77_code
def yX8_next : MethodName := ⟨RX8, "next", "()I"⟩
abbrev cX8_takeSign : ByteArray := prog_10_method_78_code
def yX8_takeSign : MethodName := ⟨RX8, "takeSign", "(I)V"⟩
abbrev cX8_takeOne : ByteArray := prog_10_method_79_code
def yX8_takeOne : MethodName := ⟨RX8, "takeOne", "(II)V"⟩
abbrev cX8_takeNumber : ByteArray := prog_10_method_80_code
def yX8_takeNumber : MethodName := ⟨RX8, "takeNumber", "(I)V"⟩
abbrev cX8_takeShuttle : ByteArray := prog_10_method_81_code
def yX8_takeShuttle : MethodName := ⟨RX8, "takeShuttle", "()V"⟩
abbrev cX8_takeOrder : ByteArray := prog_10_method_82_code
def yX8_takeOrder : MethodName := ⟨RX8, "takeOrder", "()V"⟩
abbrev cX8_fault : ByteArray := prog_10_method_83_code
def yX8_fault : MethodName := ⟨RX8, "fault", "()I"⟩
abbrev cX8_carry : ByteArray := prog_10_method_84_code
def yX8_carry : MethodName := ⟨RX8, "carry", "(I)I"⟩
abbrev cX8_carryOut : ByteArray := prog_10_method_85_code
def yX8_carryOut : MethodName := ⟨RX8, "carryOut", "()I"⟩
abbrev cX8_undo : ByteArray := prog_10_method_86_code
def yX8_undo : MethodName := ⟨RX8, "undo", "()I"⟩
abbrev cX8_save : ByteArray := prog_10_method_87_code
def yX8_save : MethodName := ⟨RX8, "save", "(I)I"⟩
abbrev cX8_restore : ByteArray := prog_10_method_88_code
def yX8_restore : MethodName := ⟨RX8, "restore", "(I)I"⟩
def RJ9 : String := "java/lang/Math"
abbrev cJ9_abs_0f7a4 : ByteArray := prog_11_method_59_code
def yJ9_abs_0f7a4 : MethodName := ⟨RJ9, "abs", "(I)I"⟩
abbrev cJ9_max_7cf53 : ByteArray := prog_11_method_65_code
def yJ9_max_7cf53 : MethodName := ⟨RJ9, "max", "(II)I"⟩
abbrev cJ9_min_7cf53 : ByteArray := prog_11_method_69_code
def yJ9_min_7cf53 : MethodName := ⟨RJ9, "min", "(II)I"⟩
def RJ10 : String := "java/lang/System"
def RJ7 : String := "java/util/Arrays"
abbrev cJ7_fill_53178 : ByteArray := prog_13_method_103_code
def yJ7_fill_53178 : MethodName := ⟨RJ7, "fill", "([II)V"⟩
def RL : String := "PassingTrackLaw"
abbrev cL_law : ByteArray := code
def yL_law : MethodName := ⟨RL, "law", "([I)Z"⟩
abbrev vwCl : List vw_C := [(RX0, TX0, 11), (RX1, TX1, 2), (RX2, TX2, 9), (RX3, TX3, 2), (RX4, TX4, 3), (RX5, TX5, 5), (RX6, TX6, 2), (RX7, TX7, 12), (RX8, TX8, 30)]
end
section
/-! words of the tables, by their places; printed by program -/
def sm_tbl : List Cond := lw_tbl.filter goodWord
theorem sm_in {w : Cond} (h : w ∈ lw_tbl) (g : goodWord w = true) : w ∈ sm_tbl := List.mem_filter.mpr ⟨h, g⟩
theorem sm_good {w : Cond} (h : w ∈ sm_tbl) : w ∈ lw_tbl ∧ goodWord w = true := List.mem_filter.mp h
theorem wm_0 : Cond.initialized RL ∈ sm_tbl := sm_in (List.mem_append_right _ (List.mem_of_getElem? (i := 0) (by decide +kernel))) rfl
theorem wm_1 : Cond.initialized RX7 ∈ sm_tbl := sm_in (List.mem_append_right _ (List.mem_of_getElem? (i := 1) (by decide +kernel))) rfl
theorem wm_2 : Cond.initialized RX0 ∈ sm_tbl := sm_in (List.mem_append_right _ (List.mem_of_getElem? (i := 2) (by decide +kernel))) rfl
theorem wm_3 : Cond.initialized RX2 ∈ sm_tbl := sm_in (List.mem_append_right _ (List.mem_of_getElem? (i := 3) (by decide +kernel))) rfl
theorem wm_4 : Cond.initialized RJ7 ∈ sm_tbl := sm_in (List.mem_append_right _ (List.mem_of_getElem? (i := 4) (by decide +kernel))) rfl
theorem wm_5 : Cond.initialized RX6 ∈ sm_tbl := sm_in (List.mem_append_right _ (List.mem_of_getElem? (i := 5) (by decide +kernel))) rfl
theorem wm_6 : Cond.initialized RX3 ∈ sm_tbl := sm_in (List.mem_append_right _ (List.mem_of_getElem? (i := 6) (by decide +kernel))) rfl
theorem wm_7 : Cond.initialized RX4 ∈ sm_tbl := sm_in (List.mem_append_right _ (List.mem_of_getElem? (i := 7) (by decide +kernel))) rfl
theorem wm_8 : Cond.initialized RX5 ∈ sm_tbl := sm_in (List.mem_append_right _ (List.mem_of_getElem? (i := 8) (by decide +kernel))) rfl
theorem wm_9 : Cond.initialized RX1 ∈ sm_tbl := sm_in (List.mem_append_right _ (List.mem_of_getElem? (i := 9) (by decide +kernel))) rfl
theorem wm_10 : Cond.initialized RX8 ∈ sm_tbl := sm_in (List.mem_append_right _ (List.mem_of_getElem? (i := 10) (by decide +kernel))) rfl
theorem wm_11 : Cond.initialized RJ10 ∈ sm_tbl := sm_in (List.mem_append_right _ (List.mem_of_getElem? (i := 11) (by decide +kernel))) rfl
theorem wm_12 : Cond.initialized RJ9 ∈ sm_tbl := sm_in (List.mem_append_right _ (List.mem_of_getElem? (i := 12) (by decide +kernel))) rfl
theorem wm_13 : Cond.classLink RL 7 RX7 ∈ sm_tbl := sm_in (List.mem_append_right _ (List.mem_of_getElem? (i := 13) (by decide +kernel))) rfl
theorem wm_14 : Cond.instantiable RX7 12 ∈ sm_tbl := sm_in (List.mem_append_right _ (List.mem_of_getElem? (i := 14) (by decide +kernel))) rfl
theorem wm_15 : Cond.methodLink RL 9 yX7_init ∈ sm_tbl := sm_in (List.mem_append_right _ (List.mem_of_getElem? (i := 15) (by decide +kernel))) rfl
theorem wm_16 : Cond.instanceMethod yX7_init ∈ sm_tbl := sm_in (List.mem_append_right _ (List.mem_of_getElem? (i := 16) (by decide +kernel))) rfl
theorem wm_17 : Cond.code yX7_init cX7_init 2 none ∈ sm_tbl := sm_in (List.mem_append_right _ (List.mem_of_getElem? (i := 17) (by decide +kernel))) rfl
theorem wm_19 : Cond.methodLink RX7 1 Lib.objectInit ∈ sm_tbl := sm_in (List.mem_append_right _ (List.mem_of_getElem? (i := 18) (by decide +kernel))) rfl
theorem wm_20 : Cond.instanceMethod Lib.objectInit ∈ sm_tbl := sm_in (List.mem_append_right _ (List.mem_of_getElem? (i := 19) (by decide +kernel))) rfl
theorem wm_21 : Cond.code Lib.objectInit ⟨#[0xb1]⟩ 1 none ∈ sm_tbl := sm_in (List.mem_append_right _ (List.mem_of_getElem? (i := 20) (by decide +kernel))) rfl
theorem wm_22 : Cond.classLink RX7 7 RX0 ∈ sm_tbl := sm_in (List.mem_append_right _ (List.mem_of_getElem? (i := 21) (by decide +kernel))) rfl
theorem wm_23 : Cond.instantiable RX0 11 ∈ sm_tbl := sm_in (List.mem_append_right _ (List.mem_of_getElem? (i := 22) (by decide +kernel))) rfl
theorem wm_24 : Cond.instanceMethod yX0_init ∈ sm_tbl := sm_in (List.mem_append_right _ (List.mem_of_getElem? (i := 24) (by decide +kernel))) rfl
theorem wm_25 : Cond.code yX0_init cX0_init 1 none ∈ sm_tbl := sm_in (List.mem_append_right _ (List.mem_of_getElem? (i := 25) (by decide +kernel))) rfl
theorem wm_27 : Cond.methodLink RX0 3 Lib.objectInit ∈ sm_tbl := sm_in (List.mem_append_right _ (List.mem_of_getElem? (i := 26) (by decide +kernel))) rfl
theorem wm_28 : Cond.classLink RX0 9 RX2 ∈ sm_tbl := sm_in (List.mem_append_right _ (List.mem_of_getElem? (i := 27) (by decide +kernel))) rfl
theorem wm_29 : Cond.instantiable RX2 9 ∈ sm_tbl := sm_in (List.mem_append_right _ (List.mem_of_getElem? (i := 28) (by decide +kernel))) rfl
theorem wm_30 : Cond.methodLink RX0 11 yX2_init ∈ sm_tbl := sm_in (List.mem_append_right _ (List.mem_of_getElem? (i := 29) (by decide +kernel))) rfl
theorem wm_31 : Cond.instanceMethod yX2_init ∈ sm_tbl := sm_in (List.mem_append_right _ (List.mem_of_getElem? (i := 30) (by decide +kernel))) rfl
theorem wm_32 : Cond.code yX2_init cX2_init 1 none ∈ sm_tbl := sm_in (List.mem_append_right _ (List.mem_of_getElem? (i := 31) (by decide +kernel))) rfl
theorem wm_34 : Cond.methodLink RX2 3 Lib.objectInit ∈ sm_tbl := sm_in (List.mem_append_right _ (List.mem_of_getElem? (i := 32) (by decide +kernel))) rfl
theorem wm_35 : Cond.methodLink RX2 33 yJ7_fill_53178 ∈ sm_tbl := sm_in (List.mem_append_right _ (List.mem_of_getElem? (i := 33) (by decide +kernel))) rfl
theorem wm_36 : Cond.static yJ7_fill_53178 ∈ sm_tbl := sm_in (List.mem_append_right _ (List.mem_of_getElem? (i := 34) (by decide +kernel))) rfl
theorem wm_37 : Cond.code yJ7_fill_53178 cJ7_fill_53178 4 none ∈ sm_tbl := sm_in (List.mem_append_right _ (List.mem_of_getElem? (i := 35) (by decide +kernel))) rfl
theorem wm_39 : Cond.fieldLink RX2 9 RX2 "tracksOf" "[I" ∈ sm_tbl := sm_in (List.mem_append_right _ (List.mem_of_getElem? (i := 36) (by decide +kernel))) rfl
theorem wm_40 : Cond.fieldLink RX0 127 RX2 "tracksOf" "[I" ∈ sm_tbl := sm_in (List.mem_append_right _ (List.mem_of_getElem? (i := 37) (by decide +kernel))) rfl
theorem wm_41 : Cond.fieldLink RX7 153 RX2 "tracksOf" "[I" ∈ sm_tbl := sm_in (List.mem_append_right _ (List.mem_of_getElem? (i := 38) (by decide +kernel))) rfl
theorem wm_42 : Cond.fieldLink RX2 15 RX2 "runningOf" "[I" ∈ sm_tbl := sm_in (List.mem_append_right _ (List.mem_of_getElem? (i := 39) (by decide +kernel))) rfl
theorem wm_43 : Cond.fieldLink RX7 157 RX2 "runningOf" "[I" ∈ sm_tbl := sm_in (List.mem_append_right _ (List.mem_of_getElem? (i := 40) (by decide +kernel))) rfl
theorem wm_44 : Cond.fieldLink RX0 133 RX2 "runningOf" "[I" ∈ sm_tbl := sm_in (List.mem_append_right _ (List.mem_of_getElem? (i := 41) (by decide +kernel))) rfl
theorem wm_45 : Cond.fieldLink RX2 18 RX2 "begin" "[I" ∈ sm_tbl := sm_in (List.mem_append_right _ (List.mem_of_getElem? (i := 42) (by decide +kernel))) rfl
theorem wm_46 : Cond.fieldLink RX0 80 RX2 "begin" "[I" ∈ sm_tbl := sm_in (List.mem_append_right _ (List.mem_of_getElem? (i := 43) (by decide +kernel))) rfl
theorem wm_47 : Cond.fieldLink RX2 21 RX2 "end" "[I" ∈ sm_tbl := sm_in (List.mem_append_right _ (List.mem_of_getElem? (i := 44) (by decide +kernel))) rfl
theorem wm_48 : Cond.fieldLink RX0 97 RX2 "end" "[I" ∈ sm_tbl := sm_in (List.mem_append_right _ (List.mem_of_getElem? (i := 45) (by decide +kernel))) rfl
theorem wm_49 : Cond.fieldLink RX2 24 RX2 "earliest" "[I" ∈ sm_tbl := sm_in (List.mem_append_right _ (List.mem_of_getElem? (i := 46) (by decide +kernel))) rfl
theorem wm_50 : Cond.fieldLink RX0 83 RX2 "earliest" "[I" ∈ sm_tbl := sm_in (List.mem_append_right _ (List.mem_of_getElem? (i := 47) (by decide +kernel))) rfl
theorem wm_51 : Cond.fieldLink RX2 27 RX2 "stop" "[I" ∈ sm_tbl := sm_in (List.mem_append_right _ (List.mem_of_getElem? (i := 48) (by decide +kernel))) rfl
theorem wm_52 : Cond.fieldLink RX0 106 RX2 "stop" "[I" ∈ sm_tbl := sm_in (List.mem_append_right _ (List.mem_of_getElem? (i := 49) (by decide +kernel))) rfl
theorem wm_53 : Cond.fieldLink RX2 30 RX2 "priority" "[I" ∈ sm_tbl := sm_in (List.mem_append_right _ (List.mem_of_getElem? (i := 50) (by decide +kernel))) rfl
theorem wm_54 : Cond.fieldLink RX4 42 RX2 "priority" "[I" ∈ sm_tbl := sm_in (List.mem_append_right _ (List.mem_of_getElem? (i := 51) (by decide +kernel))) rfl
theorem wm_55 : Cond.fieldLink RX0 130 RX2 "priority" "[I" ∈ sm_tbl := sm_in (List.mem_append_right _ (List.mem_of_getElem? (i := 52) (by decide +kernel))) rfl
theorem wm_56 : Cond.fieldLink RX4 24 RX2 "shuttles" "I" ∈ sm_tbl := sm_in (List.mem_append_right _ (List.mem_of_getElem? (i := 53) (by decide +kernel))) rfl
theorem wm_57 : Cond.fieldLink RX3 25 RX2 "shuttles" "I" ∈ sm_tbl := sm_in (List.mem_append_right _ (List.mem_of_getElem? (i := 54) (by decide +kernel))) rfl
theorem wm_58 : Cond.fieldLink RX2 45 RX2 "shuttles" "I" ∈ sm_tbl := sm_in (List.mem_append_right _ (List.mem_of_getElem? (i := 55) (by decide +kernel))) rfl
theorem wm_59 : Cond.fieldLink RX0 77 RX2 "shuttles" "I" ∈ sm_tbl := sm_in (List.mem_append_right _ (List.mem_of_getElem? (i := 56) (by decide +kernel))) rfl
theorem wm_60 : Cond.fieldLink RX6 50 RX2 "shuttles" "I" ∈ sm_tbl := sm_in (List.mem_append_right _ (List.mem_of_getElem? (i := 57) (by decide +kernel))) rfl
theorem wm_61 : Cond.fieldLink RX7 140 RX2 "shuttles" "I" ∈ sm_tbl := sm_in (List.mem_append_right _ (List.mem_of_getElem? (i := 58) (by decide +kernel))) rfl
theorem wm_62 : Cond.fieldLink RX4 39 RX2 "whoGoesFirst" "I" ∈ sm_tbl := sm_in (List.mem_append_right _ (List.mem_of_getElem? (i := 59) (by decide +kernel))) rfl
theorem wm_63 : Cond.fieldLink RX2 49 RX2 "whoGoesFirst" "I" ∈ sm_tbl := sm_in (List.mem_append_right _ (List.mem_of_getElem? (i := 60) (by decide +kernel))) rfl
theorem wm_64 : Cond.fieldLink RX0 90 RX2 "whoGoesFirst" "I" ∈ sm_tbl := sm_in (List.mem_append_right _ (List.mem_of_getElem? (i := 61) (by decide +kernel))) rfl
theorem wm_65 : Cond.fieldLink RX7 144 RX2 "whoGoesFirst" "I" ∈ sm_tbl := sm_in (List.mem_append_right _ (List.mem_of_getElem? (i := 62) (by decide +kernel))) rfl
theorem wm_66 : Cond.arrayClass .int ∈ sm_tbl := sm_in (List.mem_append_right _ (List.mem_of_getElem? (i := 82) (by decide +kernel))) rfl
theorem wm_67 : Cond.classLink RX0 18 "[[I" ∈ sm_tbl := sm_in (List.mem_append_right _ (List.mem_of_getElem? (i := 83) (by decide +kernel))) rfl
theorem wm_68 : Cond.fieldLink RX0 12 RX0 "line" "LPassingTrack$Line;" ∈ sm_tbl := sm_in (List.mem_append_right _ (List.mem_of_getElem? (i := 85) (by decide +kernel))) rfl
theorem wm_69 : Cond.fieldLink RX7 16 RX0 "line" "LPassingTrack$Line;" ∈ sm_tbl := sm_in (List.mem_append_right _ (List.mem_of_getElem? (i := 86) (by decide +kernel))) rfl
theorem wm_70 : Cond.fieldLink RX4 18 RX0 "line" "LPassingTrack$Line;" ∈ sm_tbl := sm_in (List.mem_append_right _ (List.mem_of_getElem? (i := 87) (by decide +kernel))) rfl
theorem wm_71 : Cond.fieldLink RX3 19 RX0 "line" "LPassingTrack$Line;" ∈ sm_tbl := sm_in (List.mem_append_right _ (List.mem_of_getElem? (i := 88) (by decide +kernel))) rfl
theorem wm_72 : Cond.fieldLink RX6 41 RX0 "line" "LPassingTrack$Line;" ∈ sm_tbl := sm_in (List.mem_append_right _ (List.mem_of_getElem? (i := 89) (by decide +kernel))) rfl
theorem wm_73 : Cond.fieldLink RX0 20 RX0 "comes" "[[I" ∈ sm_tbl := sm_in (List.mem_append_right _ (List.mem_of_getElem? (i := 90) (by decide +kernel))) rfl
theorem wm_74 : Cond.fieldLink RX3 42 RX0 "comes" "[[I" ∈ sm_tbl := sm_in (List.mem_append_right _ (List.mem_of_getElem? (i := 91) (by decide +kernel))) rfl
theorem wm_75 : Cond.fieldLink RX7 186 RX0 "comes" "[[I" ∈ sm_tbl := sm_in (List.mem_append_right _ (List.mem_of_getElem? (i := 92) (by decide +kernel))) rfl
theorem wm_76 : Cond.fieldLink RX0 23 RX0 "leaves" "[[I" ∈ sm_tbl := sm_in (List.mem_append_right _ (List.mem_of_getElem? (i := 93) (by decide +kernel))) rfl
theorem wm_77 : Cond.fieldLink RX3 60 RX0 "leaves" "[[I" ∈ sm_tbl := sm_in (List.mem_append_right _ (List.mem_of_getElem? (i := 94) (by decide +kernel))) rfl
theorem wm_78 : Cond.fieldLink RX7 190 RX0 "leaves" "[[I" ∈ sm_tbl := sm_in (List.mem_append_right _ (List.mem_of_getElem? (i := 95) (by decide +kernel))) rfl
theorem wm_79 : Cond.fieldLink RX0 49 RX0 "last" "I" ∈ sm_tbl := sm_in (List.mem_append_right _ (List.mem_of_getElem? (i := 96) (by decide +kernel))) rfl
theorem wm_80 : Cond.fieldLink RX7 160 RX0 "last" "I" ∈ sm_tbl := sm_in (List.mem_append_right _ (List.mem_of_getElem? (i := 97) (by decide +kernel))) rfl
theorem wm_81 : Cond.fieldLink RX0 68 RX0 "stuck" "I" ∈ sm_tbl := sm_in (List.mem_append_right _ (List.mem_of_getElem? (i := 98) (by decide +kernel))) rfl
theorem wm_82 : Cond.fieldLink RX7 166 RX0 "stuck" "I" ∈ sm_tbl := sm_in (List.mem_append_right _ (List.mem_of_getElem? (i := 99) (by decide +kernel))) rfl
theorem wm_83 : Cond.fieldLink RX0 26 RX0 "station" "[I" ∈ sm_tbl := sm_in (List.mem_append_right _ (List.mem_of_getElem? (i := 100) (by decide +kernel))) rfl
theorem wm_84 : Cond.fieldLink RX0 30 RX0 "rides" "[Z" ∈ sm_tbl := sm_in (List.mem_append_right _ (List.mem_of_getElem? (i := 101) (by decide +kernel))) rfl
theorem wm_85 : Cond.fieldLink RX0 34 RX0 "due" "[I" ∈ sm_tbl := sm_in (List.mem_append_right _ (List.mem_of_getElem? (i := 102) (by decide +kernel))) rfl
theorem wm_86 : Cond.fieldLink RX0 37 RX0 "urgency" "[I" ∈ sm_tbl := sm_in (List.mem_append_right _ (List.mem_of_getElem? (i := 103) (by decide +kernel))) rfl
theorem wm_87 : Cond.fieldLink RX0 40 RX0 "busy" "[Z" ∈ sm_tbl := sm_in (List.mem_append_right _ (List.mem_of_getElem? (i := 104) (by decide +kernel))) rfl
theorem wm_88 : Cond.fieldLink RX0 43 RX0 "held" "[I" ∈ sm_tbl := sm_in (List.mem_append_right _ (List.mem_of_getElem? (i := 105) (by decide +kernel))) rfl
theorem wm_89 : Cond.arrayClass .boolean ∈ sm_tbl := sm_in (List.mem_append_right _ (List.mem_of_getElem? (i := 129) (by decide +kernel))) rfl
theorem wm_90 : Cond.classLink RX7 27 RX2 ∈ sm_tbl := sm_in (List.mem_append_right _ (List.mem_of_getElem? (i := 130) (by decide +kernel))) rfl
theorem wm_91 : Cond.methodLink RX7 29 yX2_init ∈ sm_tbl := sm_in (List.mem_append_right _ (List.mem_of_getElem? (i := 131) (by decide +kernel))) rfl
theorem wm_92 : Cond.classLink RX7 33 RX6 ∈ sm_tbl := sm_in (List.mem_append_right _ (List.mem_of_getElem? (i := 132) (by decide +kernel))) rfl
theorem wm_93 : Cond.instantiable RX6 2 ∈ sm_tbl := sm_in (List.mem_append_right _ (List.mem_of_getElem? (i := 133) (by decide +kernel))) rfl
theorem wm_94 : Cond.instanceMethod yX6_init ∈ sm_tbl := sm_in (List.mem_append_right _ (List.mem_of_getElem? (i := 135) (by decide +kernel))) rfl
theorem wm_95 : Cond.code yX6_init cX6_init 1 none ∈ sm_tbl := sm_in (List.mem_append_right _ (List.mem_of_getElem? (i := 136) (by decide +kernel))) rfl
theorem wm_97 : Cond.methodLink RX6 3 Lib.objectInit ∈ sm_tbl := sm_in (List.mem_append_right _ (List.mem_of_getElem? (i := 137) (by decide +kernel))) rfl
theorem wm_98 : Cond.fieldLink RX6 9 RX6 "reasons" "[I" ∈ sm_tbl := sm_in (List.mem_append_right _ (List.mem_of_getElem? (i := 138) (by decide +kernel))) rfl
theorem wm_99 : Cond.fieldLink RX6 15 RX6 "blames" "[I" ∈ sm_tbl := sm_in (List.mem_append_right _ (List.mem_of_getElem? (i := 139) (by decide +kernel))) rfl
theorem wm_100 : Cond.classLink RX7 40 RX3 ∈ sm_tbl := sm_in (List.mem_append_right _ (List.mem_of_getElem? (i := 145) (by decide +kernel))) rfl
theorem wm_101 : Cond.instantiable RX3 2 ∈ sm_tbl := sm_in (List.mem_append_right _ (List.mem_of_getElem? (i := 146) (by decide +kernel))) rfl
theorem wm_102 : Cond.instanceMethod yX3_init ∈ sm_tbl := sm_in (List.mem_append_right _ (List.mem_of_getElem? (i := 148) (by decide +kernel))) rfl
theorem wm_103 : Cond.code yX3_init cX3_init 1 none ∈ sm_tbl := sm_in (List.mem_append_right _ (List.mem_of_getElem? (i := 149) (by decide +kernel))) rfl
theorem wm_105 : Cond.methodLink RX3 3 Lib.objectInit ∈ sm_tbl := sm_in (List.mem_append_right _ (List.mem_of_getElem? (i := 150) (by decide +kernel))) rfl
theorem wm_106 : Cond.fieldLink RX3 9 RX3 "rows" "[I" ∈ sm_tbl := sm_in (List.mem_append_right _ (List.mem_of_getElem? (i := 151) (by decide +kernel))) rfl
theorem wm_107 : Cond.fieldLink RX3 15 RX3 "number" "I" ∈ sm_tbl := sm_in (List.mem_append_right _ (List.mem_of_getElem? (i := 152) (by decide +kernel))) rfl
theorem wm_108 : Cond.fieldLink RX7 172 RX3 "number" "I" ∈ sm_tbl := sm_in (List.mem_append_right _ (List.mem_of_getElem? (i := 153) (by decide +kernel))) rfl
theorem wm_109 : Cond.classLink RX7 47 RX4 ∈ sm_tbl := sm_in (List.mem_append_right _ (List.mem_of_getElem? (i := 159) (by decide +kernel))) rfl
theorem wm_110 : Cond.instantiable RX4 3 ∈ sm_tbl := sm_in (List.mem_append_right _ (List.mem_of_getElem? (i := 160) (by decide +kernel))) rfl
theorem wm_111 : Cond.instanceMethod yX4_init ∈ sm_tbl := sm_in (List.mem_append_right _ (List.mem_of_getElem? (i := 162) (by decide +kernel))) rfl
theorem wm_112 : Cond.code yX4_init cX4_init 1 none ∈ sm_tbl := sm_in (List.mem_append_right _ (List.mem_of_getElem? (i := 163) (by decide +kernel))) rfl
theorem wm_114 : Cond.methodLink RX4 3 Lib.objectInit ∈ sm_tbl := sm_in (List.mem_append_right _ (List.mem_of_getElem? (i := 164) (by decide +kernel))) rfl
theorem wm_115 : Cond.fieldLink RX4 9 RX4 "best" "[I" ∈ sm_tbl := sm_in (List.mem_append_right _ (List.mem_of_getElem? (i := 165) (by decide +kernel))) rfl
theorem wm_116 : Cond.fieldLink RX7 208 RX4 "best" "[I" ∈ sm_tbl := sm_in (List.mem_append_right _ (List.mem_of_getElem? (i := 166) (by decide +kernel))) rfl
theorem wm_117 : Cond.fieldLink RX4 36 RX4 "bestDelay" "I" ∈ sm_tbl := sm_in (List.mem_append_right _ (List.mem_of_getElem? (i := 167) (by decide +kernel))) rfl
theorem wm_118 : Cond.fieldLink RX7 205 RX4 "bestDelay" "I" ∈ sm_tbl := sm_in (List.mem_append_right _ (List.mem_of_getElem? (i := 168) (by decide +kernel))) rfl
theorem wm_119 : Cond.fieldLink RX4 15 RX4 "order" "[I" ∈ sm_tbl := sm_in (List.mem_append_right _ (List.mem_of_getElem? (i := 169) (by decide +kernel))) rfl
theorem wm_120 : Cond.classLink RX7 54 RX5 ∈ sm_tbl := sm_in (List.mem_append_right _ (List.mem_of_getElem? (i := 177) (by decide +kernel))) rfl
theorem wm_121 : Cond.instantiable RX5 5 ∈ sm_tbl := sm_in (List.mem_append_right _ (List.mem_of_getElem? (i := 178) (by decide +kernel))) rfl
theorem wm_122 : Cond.instanceMethod yX5_init ∈ sm_tbl := sm_in (List.mem_append_right _ (List.mem_of_getElem? (i := 180) (by decide +kernel))) rfl
theorem wm_123 : Cond.code yX5_init cX5_init 1 none ∈ sm_tbl := sm_in (List.mem_append_right _ (List.mem_of_getElem? (i := 181) (by decide +kernel))) rfl
theorem wm_125 : Cond.methodLink RX5 3 Lib.objectInit ∈ sm_tbl := sm_in (List.mem_append_right _ (List.mem_of_getElem? (i := 182) (by decide +kernel))) rfl
theorem wm_126 : Cond.fieldLink RX5 25 RX5 "length" "I" ∈ sm_tbl := sm_in (List.mem_append_right _ (List.mem_of_getElem? (i := 183) (by decide +kernel))) rfl
theorem wm_127 : Cond.fieldLink RX7 147 RX5 "length" "I" ∈ sm_tbl := sm_in (List.mem_append_right _ (List.mem_of_getElem? (i := 184) (by decide +kernel))) rfl
theorem wm_128 : Cond.fieldLink RX5 9 RX5 "text" "[C" ∈ sm_tbl := sm_in (List.mem_append_right _ (List.mem_of_getElem? (i := 185) (by decide +kernel))) rfl
theorem wm_129 : Cond.fieldLink RX5 29 RX5 "next" "I" ∈ sm_tbl := sm_in (List.mem_append_right _ (List.mem_of_getElem? (i := 186) (by decide +kernel))) rfl
theorem wm_130 : Cond.fieldLink RX5 44 RX5 "kind" "I" ∈ sm_tbl := sm_in (List.mem_append_right _ (List.mem_of_getElem? (i := 187) (by decide +kernel))) rfl
theorem wm_131 : Cond.fieldLink RX5 15 RX5 "numbers" "[I" ∈ sm_tbl := sm_in (List.mem_append_right _ (List.mem_of_getElem? (i := 188) (by decide +kernel))) rfl
theorem wm_132 : Cond.arrayClass .char ∈ sm_tbl := sm_in (List.mem_append_right _ (List.mem_of_getElem? (i := 200) (by decide +kernel))) rfl
theorem wm_133 : Cond.classLink RX7 61 RX1 ∈ sm_tbl := sm_in (List.mem_append_right _ (List.mem_of_getElem? (i := 201) (by decide +kernel))) rfl
theorem wm_134 : Cond.instantiable RX1 2 ∈ sm_tbl := sm_in (List.mem_append_right _ (List.mem_of_getElem? (i := 202) (by decide +kernel))) rfl
theorem wm_135 : Cond.methodLink RX7 63 yX1_init ∈ sm_tbl := sm_in (List.mem_append_right _ (List.mem_of_getElem? (i := 203) (by decide +kernel))) rfl
theorem wm_136 : Cond.instanceMethod yX1_init ∈ sm_tbl := sm_in (List.mem_append_right _ (List.mem_of_getElem? (i := 204) (by decide +kernel))) rfl
theorem wm_137 : Cond.code yX1_init cX1_init 2 none ∈ sm_tbl := sm_in (List.mem_append_right _ (List.mem_of_getElem? (i := 205) (by decide +kernel))) rfl
theorem wm_139 : Cond.methodLink RX1 3 Lib.objectInit ∈ sm_tbl := sm_in (List.mem_append_right _ (List.mem_of_getElem? (i := 206) (by decide +kernel))) rfl
theorem wm_140 : Cond.classLink RX1 9 RX2 ∈ sm_tbl := sm_in (List.mem_append_right _ (List.mem_of_getElem? (i := 207) (by decide +kernel))) rfl
theorem wm_141 : Cond.methodLink RX1 17 yX2_init ∈ sm_tbl := sm_in (List.mem_append_right _ (List.mem_of_getElem? (i := 209) (by decide +kernel))) rfl
theorem wm_142 : Cond.fieldLink RX1 18 RX1 "kept" "I" ∈ sm_tbl := sm_in (List.mem_append_right _ (List.mem_of_getElem? (i := 210) (by decide +kernel))) rfl
theorem wm_143 : Cond.fieldLink RX7 150 RX1 "kept" "I" ∈ sm_tbl := sm_in (List.mem_append_right _ (List.mem_of_getElem? (i := 211) (by decide +kernel))) rfl
theorem wm_144 : Cond.fieldLink RX1 11 RX1 "states" "[LPassingTrack$Line;" ∈ sm_tbl := sm_in (List.mem_append_right _ (List.mem_of_getElem? (i := 212) (by decide +kernel))) rfl
theorem wm_145 : Cond.fieldLink RX7 10 RX7 "day" "LPassingTrack$Day;" ∈ sm_tbl := sm_in (List.mem_append_right _ (List.mem_of_getElem? (i := 218) (by decide +kernel))) rfl
theorem wm_146 : Cond.fieldLink RX7 20 RX7 "line" "LPassingTrack$Line;" ∈ sm_tbl := sm_in (List.mem_append_right _ (List.mem_of_getElem? (i := 219) (by decide +kernel))) rfl
theorem wm_147 : Cond.fieldLink RX7 21 RX7 "trialDay" "LPassingTrack$Day;" ∈ sm_tbl := sm_in (List.mem_append_right _ (List.mem_of_getElem? (i := 220) (by decide +kernel))) rfl
theorem wm_148 : Cond.fieldLink RX7 24 RX7 "trial" "LPassingTrack$Line;" ∈ sm_tbl := sm_in (List.mem_append_right _ (List.mem_of_getElem? (i := 221) (by decide +kernel))) rfl
theorem wm_149 : Cond.fieldLink RX7 30 RX7 "before" "LPassingTrack$Line;" ∈ sm_tbl := sm_in (List.mem_append_right _ (List.mem_of_getElem? (i := 222) (by decide +kernel))) rfl
theorem wm_150 : Cond.fieldLink RX7 36 RX7 "waits" "LPassingTrack$Waits;" ∈ sm_tbl := sm_in (List.mem_append_right _ (List.mem_of_getElem? (i := 223) (by decide +kernel))) rfl
theorem wm_151 : Cond.fieldLink RX7 43 RX7 "meetings" "LPassingTrack$Meetings;" ∈ sm_tbl := sm_in (List.mem_append_right _ (List.mem_of_getElem? (i := 224) (by decide +kernel))) rfl
theorem wm_152 : Cond.fieldLink RX7 50 RX7 "orders" "LPassingTrack$Orders;" ∈ sm_tbl := sm_in (List.mem_append_right _ (List.mem_of_getElem? (i := 225) (by decide +kernel))) rfl
theorem wm_153 : Cond.fieldLink RX7 57 RX7 "pad" "LPassingTrack$Pad;" ∈ sm_tbl := sm_in (List.mem_append_right _ (List.mem_of_getElem? (i := 226) (by decide +kernel))) rfl
theorem wm_154 : Cond.fieldLink RX7 64 RX7 "history" "LPassingTrack$History;" ∈ sm_tbl := sm_in (List.mem_append_right _ (List.mem_of_getElem? (i := 227) (by decide +kernel))) rfl
theorem wm_155 : Cond.fieldLink RX7 68 RX7 "slots" "[LPassingTrack$Line;" ∈ sm_tbl := sm_in (List.mem_append_right _ (List.mem_of_getElem? (i := 228) (by decide +kernel))) rfl
theorem wm_156 : Cond.fieldLink RX7 72 RX7 "saved" "[Z" ∈ sm_tbl := sm_in (List.mem_append_right _ (List.mem_of_getElem? (i := 229) (by decide +kernel))) rfl
theorem wm_157 : Cond.methodLink RL 13 yX7_first ∈ sm_tbl := sm_in (List.mem_append_right _ (List.mem_of_getElem? (i := 255) (by decide +kernel))) rfl
theorem wm_158 : Cond.instanceMethod yX7_first ∈ sm_tbl := sm_in (List.mem_append_right _ (List.mem_of_getElem? (i := 256) (by decide +kernel))) rfl
theorem wm_159 : Cond.selects RX7 yX7_first yX7_first ∈ sm_tbl := sm_in (List.mem_append_right _ (List.mem_of_getElem? (i := 257) (by decide +kernel))) rfl
theorem wm_160 : Cond.code yX7_first cX7_first 2 (some .int) ∈ sm_tbl := sm_in (List.mem_append_right _ (List.mem_of_getElem? (i := 258) (by decide +kernel))) rfl
theorem wm_162 : Cond.methodLink RX7 76 yX2_copyFrom ∈ sm_tbl := sm_in (List.mem_append_right _ (List.mem_of_getElem? (i := 259) (by decide +kernel))) rfl
theorem wm_163 : Cond.instanceMethod yX2_copyFrom ∈ sm_tbl := sm_in (List.mem_append_right _ (List.mem_of_getElem? (i := 260) (by decide +kernel))) rfl
theorem wm_164 : Cond.selects RX2 yX2_copyFrom yX2_copyFrom ∈ sm_tbl := sm_in (List.mem_append_right _ (List.mem_of_getElem? (i := 261) (by decide +kernel))) rfl
theorem wm_165 : Cond.code yX2_copyFrom cX2_copyFrom 2 none ∈ sm_tbl := sm_in (List.mem_append_right _ (List.mem_of_getElem? (i := 262) (by decide +kernel))) rfl
theorem wm_167 : Cond.methodLink RX2 39 arraycopyName ∈ sm_tbl := sm_in (List.mem_append_right _ (List.mem_of_getElem? (i := 263) (by decide +kernel))) rfl
theorem wm_168 : Cond.static arraycopyName ∈ sm_tbl := sm_in (List.mem_append_right _ (List.mem_of_getElem? (i := 264) (by decide +kernel))) rfl
theorem wm_169 : Cond.native arraycopyName ∈ sm_tbl := sm_in (List.mem_append_right _ (List.mem_of_getElem? (i := 265) (by decide +kernel))) rfl
theorem wm_170 : Cond.methodLink RX7 80 yX2_setFirst ∈ sm_tbl := sm_in (List.mem_append_right _ (List.mem_of_getElem? (i := 266) (by decide +kernel))) rfl
theorem wm_171 : Cond.instanceMethod yX2_setFirst ∈ sm_tbl := sm_in (List.mem_append_right _ (List.mem_of_getElem? (i := 267) (by decide +kernel))) rfl
theorem wm_172 : Cond.selects RX2 yX2_setFirst yX2_setFirst ∈ sm_tbl := sm_in (List.mem_append_right _ (List.mem_of_getElem? (i := 268) (by decide +kernel))) rfl
theorem wm_173 : Cond.code yX2_setFirst cX2_setFirst 3 (some .int) ∈ sm_tbl := sm_in (List.mem_append_right _ (List.mem_of_getElem? (i := 269) (by decide +kernel))) rfl
theorem wm_175 : Cond.methodLink RX7 84 yX7_changed ∈ sm_tbl := sm_in (List.mem_append_right _ (List.mem_of_getElem? (i := 270) (by decide +kernel))) rfl
theorem wm_176 : Cond.instanceMethod yX7_changed ∈ sm_tbl := sm_in (List.mem_append_right _ (List.mem_of_getElem? (i := 272) (by decide +kernel))) rfl
theorem wm_177 : Cond.code yX7_changed cX7_changed 2 (some .int) ∈ sm_tbl := sm_in (List.mem_append_right _ (List.mem_of_getElem? (i := 273) (by decide +kernel))) rfl
theorem wm_179 : Cond.methodLink RX7 107 yX1_keep ∈ sm_tbl := sm_in (List.mem_append_right _ (List.mem_of_getElem? (i := 274) (by decide +kernel))) rfl
theorem wm_180 : Cond.instanceMethod yX1_keep ∈ sm_tbl := sm_in (List.mem_append_right _ (List.mem_of_getElem? (i := 275) (by decide +kernel))) rfl
theorem wm_181 : Cond.selects RX1 yX1_keep yX1_keep ∈ sm_tbl := sm_in (List.mem_append_right _ (List.mem_of_getElem? (i := 276) (by decide +kernel))) rfl
theorem wm_182 : Cond.code yX1_keep cX1_keep 2 none ∈ sm_tbl := sm_in (List.mem_append_right _ (List.mem_of_getElem? (i := 277) (by decide +kernel))) rfl
theorem wm_184 : Cond.methodLink RX1 22 yX1_dropOldest ∈ sm_tbl := sm_in (List.mem_append_right _ (List.mem_of_getElem? (i := 278) (by decide +kernel))) rfl
theorem wm_185 : Cond.instanceMethod yX1_dropOldest ∈ sm_tbl := sm_in (List.mem_append_right _ (List.mem_of_getElem? (i := 280) (by decide +kernel))) rfl
theorem wm_186 : Cond.code yX1_dropOldest cX1_dropOldest 3 none ∈ sm_tbl := sm_in (List.mem_append_right _ (List.mem_of_getElem? (i := 281) (by decide +kernel))) rfl
theorem wm_188 : Cond.methodLink RX1 25 yX2_copyFrom ∈ sm_tbl := sm_in (List.mem_append_right _ (List.mem_of_getElem? (i := 282) (by decide +kernel))) rfl
theorem wm_189 : Cond.methodLink RL 18 yX7_tracks ∈ sm_tbl := sm_in (List.mem_append_right _ (List.mem_of_getElem? (i := 283) (by decide +kernel))) rfl
theorem wm_190 : Cond.instanceMethod yX7_tracks ∈ sm_tbl := sm_in (List.mem_append_right _ (List.mem_of_getElem? (i := 284) (by decide +kernel))) rfl
theorem wm_191 : Cond.selects RX7 yX7_tracks yX7_tracks ∈ sm_tbl := sm_in (List.mem_append_right _ (List.mem_of_getElem? (i := 285) (by decide +kernel))) rfl
theorem wm_192 : Cond.code yX7_tracks cX7_tracks 3 (some .int) ∈ sm_tbl := sm_in (List.mem_append_right _ (List.mem_of_getElem? (i := 286) (by decide +kernel))) rfl
theorem wm_194 : Cond.methodLink RX7 87 yX2_setTracks ∈ sm_tbl := sm_in (List.mem_append_right _ (List.mem_of_getElem? (i := 287) (by decide +kernel))) rfl
theorem wm_195 : Cond.instanceMethod yX2_setTracks ∈ sm_tbl := sm_in (List.mem_append_right _ (List.mem_of_getElem? (i := 288) (by decide +kernel))) rfl
theorem wm_196 : Cond.selects RX2 yX2_setTracks yX2_setTracks ∈ sm_tbl := sm_in (List.mem_append_right _ (List.mem_of_getElem? (i := 289) (by decide +kernel))) rfl
theorem wm_197 : Cond.code yX2_setTracks cX2_setTracks 4 (some .int) ∈ sm_tbl := sm_in (List.mem_append_right _ (List.mem_of_getElem? (i := 290) (by decide +kernel))) rfl
theorem wm_199 : Cond.static yX7_isStation ∈ sm_tbl := sm_in (List.mem_append_right _ (List.mem_of_getElem? (i := 292) (by decide +kernel))) rfl
theorem wm_200 : Cond.code yX7_isStation cX7_isStation 1 (some .boolean) ∈ sm_tbl := sm_in (List.mem_append_right _ (List.mem_of_getElem? (i := 293) (by decide +kernel))) rfl
theorem wm_202 : Cond.methodLink RL 23 yX7_running ∈ sm_tbl := sm_in (List.mem_append_right _ (List.mem_of_getElem? (i := 294) (by decide +kernel))) rfl
theorem wm_203 : Cond.instanceMethod yX7_running ∈ sm_tbl := sm_in (List.mem_append_right _ (List.mem_of_getElem? (i := 295) (by decide +kernel))) rfl
theorem wm_204 : Cond.selects RX7 yX7_running yX7_running ∈ sm_tbl := sm_in (List.mem_append_right _ (List.mem_of_getElem? (i := 296) (by decide +kernel))) rfl
theorem wm_205 : Cond.code yX7_running cX7_running 3 (some .int) ∈ sm_tbl := sm_in (List.mem_append_right _ (List.mem_of_getElem? (i := 297) (by decide +kernel))) rfl
theorem wm_207 : Cond.methodLink RX7 91 yX2_setRunning ∈ sm_tbl := sm_in (List.mem_append_right _ (List.mem_of_getElem? (i := 298) (by decide +kernel))) rfl
theorem wm_208 : Cond.instanceMethod yX2_setRunning ∈ sm_tbl := sm_in (List.mem_append_right _ (List.mem_of_getElem? (i := 299) (by decide +kernel))) rfl
theorem wm_209 : Cond.selects RX2 yX2_setRunning yX2_setRunning ∈ sm_tbl := sm_in (List.mem_append_right _ (List.mem_of_getElem? (i := 300) (by decide +kernel))) rfl
theorem wm_210 : Cond.code yX2_setRunning cX2_setRunning 4 (some .int) ∈ sm_tbl := sm_in (List.mem_append_right _ (List.mem_of_getElem? (i := 301) (by decide +kernel))) rfl
theorem wm_212 : Cond.static yX7_isStretch ∈ sm_tbl := sm_in (List.mem_append_right _ (List.mem_of_getElem? (i := 303) (by decide +kernel))) rfl
theorem wm_213 : Cond.code yX7_isStretch cX7_isStretch 1 (some .boolean) ∈ sm_tbl := sm_in (List.mem_append_right _ (List.mem_of_getElem? (i := 304) (by decide +kernel))) rfl
theorem wm_215 : Cond.methodLink RL 27 yX7_shuttle ∈ sm_tbl := sm_in (List.mem_append_right _ (List.mem_of_getElem? (i := 305) (by decide +kernel))) rfl
theorem wm_216 : Cond.instanceMethod yX7_shuttle ∈ sm_tbl := sm_in (List.mem_append_right _ (List.mem_of_getElem? (i := 306) (by decide +kernel))) rfl
theorem wm_217 : Cond.selects RX7 yX7_shuttle yX7_shuttle ∈ sm_tbl := sm_in (List.mem_append_right _ (List.mem_of_getElem? (i := 307) (by decide +kernel))) rfl
theorem wm_218 : Cond.code yX7_shuttle cX7_shuttle 6 (some .int) ∈ sm_tbl := sm_in (List.mem_append_right _ (List.mem_of_getElem? (i := 308) (by decide +kernel))) rfl
theorem wm_220 : Cond.methodLink RX7 94 yX2_addShuttle ∈ sm_tbl := sm_in (List.mem_append_right _ (List.mem_of_getElem? (i := 309) (by decide +kernel))) rfl
theorem wm_221 : Cond.instanceMethod yX2_addShuttle ∈ sm_tbl := sm_in (List.mem_append_right _ (List.mem_of_getElem? (i := 310) (by decide +kernel))) rfl
theorem wm_222 : Cond.selects RX2 yX2_addShuttle yX2_addShuttle ∈ sm_tbl := sm_in (List.mem_append_right _ (List.mem_of_getElem? (i := 311) (by decide +kernel))) rfl
theorem wm_223 : Cond.code yX2_addShuttle cX2_addShuttle 6 (some .int) ∈ sm_tbl := sm_in (List.mem_append_right _ (List.mem_of_getElem? (i := 312) (by decide +kernel))) rfl
theorem wm_225 : Cond.methodLink RL 32 yX7_late ∈ sm_tbl := sm_in (List.mem_append_right _ (List.mem_of_getElem? (i := 313) (by decide +kernel))) rfl
theorem wm_226 : Cond.instanceMethod yX7_late ∈ sm_tbl := sm_in (List.mem_append_right _ (List.mem_of_getElem? (i := 314) (by decide +kernel))) rfl
theorem wm_227 : Cond.selects RX7 yX7_late yX7_late ∈ sm_tbl := sm_in (List.mem_append_right _ (List.mem_of_getElem? (i := 315) (by decide +kernel))) rfl
theorem wm_228 : Cond.code yX7_late cX7_late 3 (some .int) ∈ sm_tbl := sm_in (List.mem_append_right _ (List.mem_of_getElem? (i := 316) (by decide +kernel))) rfl
theorem wm_230 : Cond.methodLink RX7 98 yX2_startLater ∈ sm_tbl := sm_in (List.mem_append_right _ (List.mem_of_getElem? (i := 317) (by decide +kernel))) rfl
theorem wm_231 : Cond.instanceMethod yX2_startLater ∈ sm_tbl := sm_in (List.mem_append_right _ (List.mem_of_getElem? (i := 318) (by decide +kernel))) rfl
theorem wm_232 : Cond.selects RX2 yX2_startLater yX2_startLater ∈ sm_tbl := sm_in (List.mem_append_right _ (List.mem_of_getElem? (i := 319) (by decide +kernel))) rfl
theorem wm_233 : Cond.code yX2_startLater cX2_startLater 3 (some .int) ∈ sm_tbl := sm_in (List.mem_append_right _ (List.mem_of_getElem? (i := 320) (by decide +kernel))) rfl
theorem wm_235 : Cond.methodLink RX2 59 yX2_hasShuttle ∈ sm_tbl := sm_in (List.mem_append_right _ (List.mem_of_getElem? (i := 321) (by decide +kernel))) rfl
theorem wm_236 : Cond.instanceMethod yX2_hasShuttle ∈ sm_tbl := sm_in (List.mem_append_right _ (List.mem_of_getElem? (i := 322) (by decide +kernel))) rfl
theorem wm_237 : Cond.selects RX2 yX2_hasShuttle yX2_hasShuttle ∈ sm_tbl := sm_in (List.mem_append_right _ (List.mem_of_getElem? (i := 323) (by decide +kernel))) rfl
theorem wm_238 : Cond.code yX2_hasShuttle cX2_hasShuttle 2 (some .boolean) ∈ sm_tbl := sm_in (List.mem_append_right _ (List.mem_of_getElem? (i := 324) (by decide +kernel))) rfl
theorem wm_240 : Cond.methodLink RL 36 yX7_prefer ∈ sm_tbl := sm_in (List.mem_append_right _ (List.mem_of_getElem? (i := 325) (by decide +kernel))) rfl
theorem wm_241 : Cond.instanceMethod yX7_prefer ∈ sm_tbl := sm_in (List.mem_append_right _ (List.mem_of_getElem? (i := 326) (by decide +kernel))) rfl
theorem wm_242 : Cond.selects RX7 yX7_prefer yX7_prefer ∈ sm_tbl := sm_in (List.mem_append_right _ (List.mem_of_getElem? (i := 327) (by decide +kernel))) rfl
theorem wm_243 : Cond.code yX7_prefer cX7_prefer 3 (some .int) ∈ sm_tbl := sm_in (List.mem_append_right _ (List.mem_of_getElem? (i := 328) (by decide +kernel))) rfl
theorem wm_245 : Cond.methodLink RX7 101 yX2_setPriority ∈ sm_tbl := sm_in (List.mem_append_right _ (List.mem_of_getElem? (i := 329) (by decide +kernel))) rfl
theorem wm_246 : Cond.instanceMethod yX2_setPriority ∈ sm_tbl := sm_in (List.mem_append_right _ (List.mem_of_getElem? (i := 330) (by decide +kernel))) rfl
theorem wm_247 : Cond.selects RX2 yX2_setPriority yX2_setPriority ∈ sm_tbl := sm_in (List.mem_append_right _ (List.mem_of_getElem? (i := 331) (by decide +kernel))) rfl
theorem wm_248 : Cond.code yX2_setPriority cX2_setPriority 4 (some .int) ∈ sm_tbl := sm_in (List.mem_append_right _ (List.mem_of_getElem? (i := 332) (by decide +kernel))) rfl
theorem wm_250 : Cond.methodLink RL 40 yX7_remove ∈ sm_tbl := sm_in (List.mem_append_right _ (List.mem_of_getElem? (i := 333) (by decide +kernel))) rfl
theorem wm_251 : Cond.instanceMethod yX7_remove ∈ sm_tbl := sm_in (List.mem_append_right _ (List.mem_of_getElem? (i := 334) (by decide +kernel))) rfl
theorem wm_252 : Cond.selects RX7 yX7_remove yX7_remove ∈ sm_tbl := sm_in (List.mem_append_right _ (List.mem_of_getElem? (i := 335) (by decide +kernel))) rfl
theorem wm_253 : Cond.code yX7_remove cX7_remove 2 (some .int) ∈ sm_tbl := sm_in (List.mem_append_right _ (List.mem_of_getElem? (i := 336) (by decide +kernel))) rfl
theorem wm_255 : Cond.methodLink RX7 104 yX2_takeAway ∈ sm_tbl := sm_in (List.mem_append_right _ (List.mem_of_getElem? (i := 337) (by decide +kernel))) rfl
theorem wm_256 : Cond.instanceMethod yX2_takeAway ∈ sm_tbl := sm_in (List.mem_append_right _ (List.mem_of_getElem? (i := 338) (by decide +kernel))) rfl
theorem wm_257 : Cond.selects RX2 yX2_takeAway yX2_takeAway ∈ sm_tbl := sm_in (List.mem_append_right _ (List.mem_of_getElem? (i := 339) (by decide +kernel))) rfl
theorem wm_258 : Cond.code yX2_takeAway cX2_takeAway 3 (some .int) ∈ sm_tbl := sm_in (List.mem_append_right _ (List.mem_of_getElem? (i := 340) (by decide +kernel))) rfl
theorem wm_260 : Cond.methodLink RL 44 yX7_ofShuttle ∈ sm_tbl := sm_in (List.mem_append_right _ (List.mem_of_getElem? (i := 341) (by decide +kernel))) rfl
theorem wm_261 : Cond.instanceMethod yX7_ofShuttle ∈ sm_tbl := sm_in (List.mem_append_right _ (List.mem_of_getElem? (i := 342) (by decide +kernel))) rfl
theorem wm_262 : Cond.selects RX7 yX7_ofShuttle yX7_ofShuttle ∈ sm_tbl := sm_in (List.mem_append_right _ (List.mem_of_getElem? (i := 343) (by decide +kernel))) rfl
theorem wm_263 : Cond.code yX7_ofShuttle cX7_ofShuttle 3 (some .int) ∈ sm_tbl := sm_in (List.mem_append_right _ (List.mem_of_getElem? (i := 344) (by decide +kernel))) rfl
theorem wm_265 : Cond.methodLink RX7 110 yX2_hasShuttle ∈ sm_tbl := sm_in (List.mem_append_right _ (List.mem_of_getElem? (i := 345) (by decide +kernel))) rfl
theorem wm_266 : Cond.methodLink RX7 114 yX2_number ∈ sm_tbl := sm_in (List.mem_append_right _ (List.mem_of_getElem? (i := 346) (by decide +kernel))) rfl
theorem wm_267 : Cond.instanceMethod yX2_number ∈ sm_tbl := sm_in (List.mem_append_right _ (List.mem_of_getElem? (i := 347) (by decide +kernel))) rfl
theorem wm_268 : Cond.selects RX2 yX2_number yX2_number ∈ sm_tbl := sm_in (List.mem_append_right _ (List.mem_of_getElem? (i := 348) (by decide +kernel))) rfl
theorem wm_269 : Cond.code yX2_number cX2_number 3 (some .int) ∈ sm_tbl := sm_in (List.mem_append_right _ (List.mem_of_getElem? (i := 349) (by decide +kernel))) rfl
theorem wm_271 : Cond.methodLink RX2 62 yX2_wayLeft ∈ sm_tbl := sm_in (List.mem_append_right _ (List.mem_of_getElem? (i := 350) (by decide +kernel))) rfl
theorem wm_272 : Cond.instanceMethod yX2_wayLeft ∈ sm_tbl := sm_in (List.mem_append_right _ (List.mem_of_getElem? (i := 351) (by decide +kernel))) rfl
theorem wm_273 : Cond.selects RX2 yX2_wayLeft yX2_wayLeft ∈ sm_tbl := sm_in (List.mem_append_right _ (List.mem_of_getElem? (i := 352) (by decide +kernel))) rfl
theorem wm_274 : Cond.code yX2_wayLeft cX2_wayLeft 7 (some .int) ∈ sm_tbl := sm_in (List.mem_append_right _ (List.mem_of_getElem? (i := 353) (by decide +kernel))) rfl
theorem wm_276 : Cond.methodLink RX2 69 yJ9_min_7cf53 ∈ sm_tbl := sm_in (List.mem_append_right _ (List.mem_of_getElem? (i := 354) (by decide +kernel))) rfl
theorem wm_277 : Cond.static yJ9_min_7cf53 ∈ sm_tbl := sm_in (List.mem_append_right _ (List.mem_of_getElem? (i := 355) (by decide +kernel))) rfl
theorem wm_278 : Cond.code yJ9_min_7cf53 cJ9_min_7cf53 2 (some .int) ∈ sm_tbl := sm_in (List.mem_append_right _ (List.mem_of_getElem? (i := 356) (by decide +kernel))) rfl
theorem wm_280 : Cond.methodLink RX2 74 yJ9_max_7cf53 ∈ sm_tbl := sm_in (List.mem_append_right _ (List.mem_of_getElem? (i := 357) (by decide +kernel))) rfl
theorem wm_281 : Cond.static yJ9_max_7cf53 ∈ sm_tbl := sm_in (List.mem_append_right _ (List.mem_of_getElem? (i := 358) (by decide +kernel))) rfl
theorem wm_282 : Cond.code yJ9_max_7cf53 cJ9_max_7cf53 2 (some .int) ∈ sm_tbl := sm_in (List.mem_append_right _ (List.mem_of_getElem? (i := 359) (by decide +kernel))) rfl
theorem wm_284 : Cond.methodLink RX7 117 yX0_run ∈ sm_tbl := sm_in (List.mem_append_right _ (List.mem_of_getElem? (i := 360) (by decide +kernel))) rfl
theorem wm_285 : Cond.instanceMethod yX0_run ∈ sm_tbl := sm_in (List.mem_append_right _ (List.mem_of_getElem? (i := 361) (by decide +kernel))) rfl
theorem wm_286 : Cond.selects RX0 yX0_run yX0_run ∈ sm_tbl := sm_in (List.mem_append_right _ (List.mem_of_getElem? (i := 362) (by decide +kernel))) rfl
theorem wm_287 : Cond.code yX0_run cX0_run 3 none ∈ sm_tbl := sm_in (List.mem_append_right _ (List.mem_of_getElem? (i := 363) (by decide +kernel))) rfl
theorem wm_289 : Cond.methodLink RX0 46 yX0_putOutside ∈ sm_tbl := sm_in (List.mem_append_right _ (List.mem_of_getElem? (i := 364) (by decide +kernel))) rfl
theorem wm_290 : Cond.instanceMethod yX0_putOutside ∈ sm_tbl := sm_in (List.mem_append_right _ (List.mem_of_getElem? (i := 366) (by decide +kernel))) rfl
theorem wm_291 : Cond.code yX0_putOutside cX0_putOutside 2 none ∈ sm_tbl := sm_in (List.mem_append_right _ (List.mem_of_getElem? (i := 367) (by decide +kernel))) rfl
theorem wm_293 : Cond.methodLink RX0 71 yJ7_fill_53178 ∈ sm_tbl := sm_in (List.mem_append_right _ (List.mem_of_getElem? (i := 368) (by decide +kernel))) rfl
theorem wm_294 : Cond.methodLink RX0 86 yX0_stand ∈ sm_tbl := sm_in (List.mem_append_right _ (List.mem_of_getElem? (i := 369) (by decide +kernel))) rfl
theorem wm_295 : Cond.instanceMethod yX0_stand ∈ sm_tbl := sm_in (List.mem_append_right _ (List.mem_of_getElem? (i := 371) (by decide +kernel))) rfl
theorem wm_296 : Cond.code yX0_stand cX0_stand 4 none ∈ sm_tbl := sm_in (List.mem_append_right _ (List.mem_of_getElem? (i := 372) (by decide +kernel))) rfl
theorem wm_298 : Cond.methodLink RX0 93 yX2_wayLeft ∈ sm_tbl := sm_in (List.mem_append_right _ (List.mem_of_getElem? (i := 373) (by decide +kernel))) rfl
theorem wm_299 : Cond.methodLink RX0 53 yX0_comeIn ∈ sm_tbl := sm_in (List.mem_append_right _ (List.mem_of_getElem? (i := 374) (by decide +kernel))) rfl
theorem wm_300 : Cond.instanceMethod yX0_comeIn ∈ sm_tbl := sm_in (List.mem_append_right _ (List.mem_of_getElem? (i := 376) (by decide +kernel))) rfl
theorem wm_301 : Cond.code yX0_comeIn cX0_comeIn 4 none ∈ sm_tbl := sm_in (List.mem_append_right _ (List.mem_of_getElem? (i := 377) (by decide +kernel))) rfl
theorem wm_303 : Cond.methodLink RX0 100 yX2_nextStation ∈ sm_tbl := sm_in (List.mem_append_right _ (List.mem_of_getElem? (i := 378) (by decide +kernel))) rfl
theorem wm_304 : Cond.instanceMethod yX2_nextStation ∈ sm_tbl := sm_in (List.mem_append_right _ (List.mem_of_getElem? (i := 379) (by decide +kernel))) rfl
theorem wm_305 : Cond.selects RX2 yX2_nextStation yX2_nextStation ∈ sm_tbl := sm_in (List.mem_append_right _ (List.mem_of_getElem? (i := 380) (by decide +kernel))) rfl
theorem wm_306 : Cond.code yX2_nextStation cX2_nextStation 3 (some .int) ∈ sm_tbl := sm_in (List.mem_append_right _ (List.mem_of_getElem? (i := 381) (by decide +kernel))) rfl
theorem wm_308 : Cond.methodLink RX2 66 yX2_goesUp ∈ sm_tbl := sm_in (List.mem_append_right _ (List.mem_of_getElem? (i := 382) (by decide +kernel))) rfl
theorem wm_309 : Cond.instanceMethod yX2_goesUp ∈ sm_tbl := sm_in (List.mem_append_right _ (List.mem_of_getElem? (i := 383) (by decide +kernel))) rfl
theorem wm_310 : Cond.selects RX2 yX2_goesUp yX2_goesUp ∈ sm_tbl := sm_in (List.mem_append_right _ (List.mem_of_getElem? (i := 384) (by decide +kernel))) rfl
theorem wm_311 : Cond.code yX2_goesUp cX2_goesUp 2 (some .boolean) ∈ sm_tbl := sm_in (List.mem_append_right _ (List.mem_of_getElem? (i := 385) (by decide +kernel))) rfl
theorem wm_313 : Cond.methodLink RX0 103 yX2_stretchAhead ∈ sm_tbl := sm_in (List.mem_append_right _ (List.mem_of_getElem? (i := 386) (by decide +kernel))) rfl
theorem wm_314 : Cond.instanceMethod yX2_stretchAhead ∈ sm_tbl := sm_in (List.mem_append_right _ (List.mem_of_getElem? (i := 387) (by decide +kernel))) rfl
theorem wm_315 : Cond.selects RX2 yX2_stretchAhead yX2_stretchAhead ∈ sm_tbl := sm_in (List.mem_append_right _ (List.mem_of_getElem? (i := 388) (by decide +kernel))) rfl
theorem wm_316 : Cond.code yX2_stretchAhead cX2_stretchAhead 3 (some .int) ∈ sm_tbl := sm_in (List.mem_append_right _ (List.mem_of_getElem? (i := 389) (by decide +kernel))) rfl
theorem wm_318 : Cond.methodLink RX0 57 yX0_letLeave ∈ sm_tbl := sm_in (List.mem_append_right _ (List.mem_of_getElem? (i := 390) (by decide +kernel))) rfl
theorem wm_319 : Cond.instanceMethod yX0_letLeave ∈ sm_tbl := sm_in (List.mem_append_right _ (List.mem_of_getElem? (i := 392) (by decide +kernel))) rfl
theorem wm_320 : Cond.code yX0_letLeave cX0_letLeave 4 none ∈ sm_tbl := sm_in (List.mem_append_right _ (List.mem_of_getElem? (i := 393) (by decide +kernel))) rfl
theorem wm_322 : Cond.methodLink RX0 109 yX0_firstToLeave ∈ sm_tbl := sm_in (List.mem_append_right _ (List.mem_of_getElem? (i := 394) (by decide +kernel))) rfl
theorem wm_323 : Cond.instanceMethod yX0_firstToLeave ∈ sm_tbl := sm_in (List.mem_append_right _ (List.mem_of_getElem? (i := 396) (by decide +kernel))) rfl
theorem wm_324 : Cond.code yX0_firstToLeave cX0_firstToLeave 4 (some .int) ∈ sm_tbl := sm_in (List.mem_append_right _ (List.mem_of_getElem? (i := 397) (by decide +kernel))) rfl
theorem wm_326 : Cond.methodLink RX0 116 yX0_canLeave ∈ sm_tbl := sm_in (List.mem_append_right _ (List.mem_of_getElem? (i := 398) (by decide +kernel))) rfl
theorem wm_327 : Cond.instanceMethod yX0_canLeave ∈ sm_tbl := sm_in (List.mem_append_right _ (List.mem_of_getElem? (i := 400) (by decide +kernel))) rfl
theorem wm_328 : Cond.code yX0_canLeave cX0_canLeave 4 (some .boolean) ∈ sm_tbl := sm_in (List.mem_append_right _ (List.mem_of_getElem? (i := 401) (by decide +kernel))) rfl
theorem wm_330 : Cond.methodLink RX0 123 yX0_isAtEnd ∈ sm_tbl := sm_in (List.mem_append_right _ (List.mem_of_getElem? (i := 402) (by decide +kernel))) rfl
theorem wm_331 : Cond.instanceMethod yX0_isAtEnd ∈ sm_tbl := sm_in (List.mem_append_right _ (List.mem_of_getElem? (i := 404) (by decide +kernel))) rfl
theorem wm_332 : Cond.code yX0_isAtEnd cX0_isAtEnd 2 (some .boolean) ∈ sm_tbl := sm_in (List.mem_append_right _ (List.mem_of_getElem? (i := 405) (by decide +kernel))) rfl
theorem wm_334 : Cond.methodLink RX0 120 yX0_goesBefore ∈ sm_tbl := sm_in (List.mem_append_right _ (List.mem_of_getElem? (i := 406) (by decide +kernel))) rfl
theorem wm_335 : Cond.instanceMethod yX0_goesBefore ∈ sm_tbl := sm_in (List.mem_append_right _ (List.mem_of_getElem? (i := 408) (by decide +kernel))) rfl
theorem wm_336 : Cond.code yX0_goesBefore cX0_goesBefore 3 (some .boolean) ∈ sm_tbl := sm_in (List.mem_append_right _ (List.mem_of_getElem? (i := 409) (by decide +kernel))) rfl
theorem wm_338 : Cond.methodLink RX0 112 yX0_leave ∈ sm_tbl := sm_in (List.mem_append_right _ (List.mem_of_getElem? (i := 410) (by decide +kernel))) rfl
theorem wm_339 : Cond.instanceMethod yX0_leave ∈ sm_tbl := sm_in (List.mem_append_right _ (List.mem_of_getElem? (i := 412) (by decide +kernel))) rfl
theorem wm_340 : Cond.code yX0_leave cX0_leave 6 none ∈ sm_tbl := sm_in (List.mem_append_right _ (List.mem_of_getElem? (i := 413) (by decide +kernel))) rfl
theorem wm_342 : Cond.methodLink RX0 60 yX0_nextEvent ∈ sm_tbl := sm_in (List.mem_append_right _ (List.mem_of_getElem? (i := 414) (by decide +kernel))) rfl
theorem wm_343 : Cond.instanceMethod yX0_nextEvent ∈ sm_tbl := sm_in (List.mem_append_right _ (List.mem_of_getElem? (i := 416) (by decide +kernel))) rfl
theorem wm_344 : Cond.code yX0_nextEvent cX0_nextEvent 4 (some .int) ∈ sm_tbl := sm_in (List.mem_append_right _ (List.mem_of_getElem? (i := 417) (by decide +kernel))) rfl
theorem wm_346 : Cond.methodLink RX0 64 yX0_notAtEnd ∈ sm_tbl := sm_in (List.mem_append_right _ (List.mem_of_getElem? (i := 418) (by decide +kernel))) rfl
theorem wm_347 : Cond.instanceMethod yX0_notAtEnd ∈ sm_tbl := sm_in (List.mem_append_right _ (List.mem_of_getElem? (i := 420) (by decide +kernel))) rfl
theorem wm_348 : Cond.code yX0_notAtEnd cX0_notAtEnd 3 (some .int) ∈ sm_tbl := sm_in (List.mem_append_right _ (List.mem_of_getElem? (i := 421) (by decide +kernel))) rfl
theorem wm_350 : Cond.methodLink RX7 120 yX0_endMinute ∈ sm_tbl := sm_in (List.mem_append_right _ (List.mem_of_getElem? (i := 422) (by decide +kernel))) rfl
theorem wm_351 : Cond.instanceMethod yX0_endMinute ∈ sm_tbl := sm_in (List.mem_append_right _ (List.mem_of_getElem? (i := 423) (by decide +kernel))) rfl
theorem wm_352 : Cond.selects RX0 yX0_endMinute yX0_endMinute ∈ sm_tbl := sm_in (List.mem_append_right _ (List.mem_of_getElem? (i := 424) (by decide +kernel))) rfl
theorem wm_353 : Cond.code yX0_endMinute cX0_endMinute 2 (some .int) ∈ sm_tbl := sm_in (List.mem_append_right _ (List.mem_of_getElem? (i := 425) (by decide +kernel))) rfl
theorem wm_355 : Cond.methodLink RX7 123 yX0_delayOf ∈ sm_tbl := sm_in (List.mem_append_right _ (List.mem_of_getElem? (i := 426) (by decide +kernel))) rfl
theorem wm_356 : Cond.instanceMethod yX0_delayOf ∈ sm_tbl := sm_in (List.mem_append_right _ (List.mem_of_getElem? (i := 427) (by decide +kernel))) rfl
theorem wm_357 : Cond.selects RX0 yX0_delayOf yX0_delayOf ∈ sm_tbl := sm_in (List.mem_append_right _ (List.mem_of_getElem? (i := 428) (by decide +kernel))) rfl
theorem wm_358 : Cond.code yX0_delayOf cX0_delayOf 3 (some .int) ∈ sm_tbl := sm_in (List.mem_append_right _ (List.mem_of_getElem? (i := 429) (by decide +kernel))) rfl
theorem wm_360 : Cond.methodLink RX0 136 yX0_endMinute ∈ sm_tbl := sm_in (List.mem_append_right _ (List.mem_of_getElem? (i := 430) (by decide +kernel))) rfl
theorem wm_361 : Cond.methodLink RX7 126 yX6_gather ∈ sm_tbl := sm_in (List.mem_append_right _ (List.mem_of_getElem? (i := 431) (by decide +kernel))) rfl
theorem wm_362 : Cond.instanceMethod yX6_gather ∈ sm_tbl := sm_in (List.mem_append_right _ (List.mem_of_getElem? (i := 432) (by decide +kernel))) rfl
theorem wm_363 : Cond.selects RX6 yX6_gather yX6_gather ∈ sm_tbl := sm_in (List.mem_append_right _ (List.mem_of_getElem? (i := 433) (by decide +kernel))) rfl
theorem wm_364 : Cond.code yX6_gather cX6_gather 4 none ∈ sm_tbl := sm_in (List.mem_append_right _ (List.mem_of_getElem? (i := 434) (by decide +kernel))) rfl
theorem wm_366 : Cond.methodLink RX6 18 yJ7_fill_53178 ∈ sm_tbl := sm_in (List.mem_append_right _ (List.mem_of_getElem? (i := 435) (by decide +kernel))) rfl
theorem wm_367 : Cond.methodLink RX6 24 yX0_stoodAt ∈ sm_tbl := sm_in (List.mem_append_right _ (List.mem_of_getElem? (i := 436) (by decide +kernel))) rfl
theorem wm_368 : Cond.instanceMethod yX0_stoodAt ∈ sm_tbl := sm_in (List.mem_append_right _ (List.mem_of_getElem? (i := 437) (by decide +kernel))) rfl
theorem wm_369 : Cond.selects RX0 yX0_stoodAt yX0_stoodAt ∈ sm_tbl := sm_in (List.mem_append_right _ (List.mem_of_getElem? (i := 438) (by decide +kernel))) rfl
theorem wm_370 : Cond.code yX0_stoodAt cX0_stoodAt 3 (some .boolean) ∈ sm_tbl := sm_in (List.mem_append_right _ (List.mem_of_getElem? (i := 439) (by decide +kernel))) rfl
theorem wm_372 : Cond.methodLink RX0 147 yX0_wasOnTrack ∈ sm_tbl := sm_in (List.mem_append_right _ (List.mem_of_getElem? (i := 440) (by decide +kernel))) rfl
theorem wm_373 : Cond.instanceMethod yX0_wasOnTrack ∈ sm_tbl := sm_in (List.mem_append_right _ (List.mem_of_getElem? (i := 441) (by decide +kernel))) rfl
theorem wm_374 : Cond.selects RX0 yX0_wasOnTrack yX0_wasOnTrack ∈ sm_tbl := sm_in (List.mem_append_right _ (List.mem_of_getElem? (i := 442) (by decide +kernel))) rfl
theorem wm_375 : Cond.code yX0_wasOnTrack cX0_wasOnTrack 3 (some .boolean) ∈ sm_tbl := sm_in (List.mem_append_right _ (List.mem_of_getElem? (i := 443) (by decide +kernel))) rfl
theorem wm_377 : Cond.methodLink RX6 30 yX6_gatherAt ∈ sm_tbl := sm_in (List.mem_append_right _ (List.mem_of_getElem? (i := 444) (by decide +kernel))) rfl
theorem wm_378 : Cond.instanceMethod yX6_gatherAt ∈ sm_tbl := sm_in (List.mem_append_right _ (List.mem_of_getElem? (i := 446) (by decide +kernel))) rfl
theorem wm_379 : Cond.code yX6_gatherAt cX6_gatherAt 10 none ∈ sm_tbl := sm_in (List.mem_append_right _ (List.mem_of_getElem? (i := 447) (by decide +kernel))) rfl
theorem wm_381 : Cond.methodLink RX6 34 yX0_readyAt ∈ sm_tbl := sm_in (List.mem_append_right _ (List.mem_of_getElem? (i := 448) (by decide +kernel))) rfl
theorem wm_382 : Cond.instanceMethod yX0_readyAt ∈ sm_tbl := sm_in (List.mem_append_right _ (List.mem_of_getElem? (i := 449) (by decide +kernel))) rfl
theorem wm_383 : Cond.selects RX0 yX0_readyAt yX0_readyAt ∈ sm_tbl := sm_in (List.mem_append_right _ (List.mem_of_getElem? (i := 450) (by decide +kernel))) rfl
theorem wm_384 : Cond.code yX0_readyAt cX0_readyAt 3 (some .int) ∈ sm_tbl := sm_in (List.mem_append_right _ (List.mem_of_getElem? (i := 451) (by decide +kernel))) rfl
theorem wm_386 : Cond.methodLink RX6 38 yX0_goneFrom ∈ sm_tbl := sm_in (List.mem_append_right _ (List.mem_of_getElem? (i := 452) (by decide +kernel))) rfl
theorem wm_387 : Cond.instanceMethod yX0_goneFrom ∈ sm_tbl := sm_in (List.mem_append_right _ (List.mem_of_getElem? (i := 453) (by decide +kernel))) rfl
theorem wm_388 : Cond.selects RX0 yX0_goneFrom yX0_goneFrom ∈ sm_tbl := sm_in (List.mem_append_right _ (List.mem_of_getElem? (i := 454) (by decide +kernel))) rfl
theorem wm_389 : Cond.code yX0_goneFrom cX0_goneFrom 3 (some .int) ∈ sm_tbl := sm_in (List.mem_append_right _ (List.mem_of_getElem? (i := 455) (by decide +kernel))) rfl
theorem wm_391 : Cond.methodLink RX6 45 yX2_stretchAhead ∈ sm_tbl := sm_in (List.mem_append_right _ (List.mem_of_getElem? (i := 456) (by decide +kernel))) rfl
theorem wm_392 : Cond.methodLink RX6 54 yX0_minutesOn ∈ sm_tbl := sm_in (List.mem_append_right _ (List.mem_of_getElem? (i := 457) (by decide +kernel))) rfl
theorem wm_393 : Cond.instanceMethod yX0_minutesOn ∈ sm_tbl := sm_in (List.mem_append_right _ (List.mem_of_getElem? (i := 458) (by decide +kernel))) rfl
theorem wm_394 : Cond.selects RX0 yX0_minutesOn yX0_minutesOn ∈ sm_tbl := sm_in (List.mem_append_right _ (List.mem_of_getElem? (i := 459) (by decide +kernel))) rfl
theorem wm_395 : Cond.code yX0_minutesOn cX0_minutesOn 8 (some .int) ∈ sm_tbl := sm_in (List.mem_append_right _ (List.mem_of_getElem? (i := 460) (by decide +kernel))) rfl
theorem wm_397 : Cond.methodLink RX0 172 yX2_goesUp ∈ sm_tbl := sm_in (List.mem_append_right _ (List.mem_of_getElem? (i := 461) (by decide +kernel))) rfl
theorem wm_398 : Cond.methodLink RX0 175 yJ9_min_7cf53 ∈ sm_tbl := sm_in (List.mem_append_right _ (List.mem_of_getElem? (i := 462) (by decide +kernel))) rfl
theorem wm_399 : Cond.methodLink RX0 142 yJ9_max_7cf53 ∈ sm_tbl := sm_in (List.mem_append_right _ (List.mem_of_getElem? (i := 463) (by decide +kernel))) rfl
theorem wm_400 : Cond.methodLink RX6 58 yX0_reasonFor ∈ sm_tbl := sm_in (List.mem_append_right _ (List.mem_of_getElem? (i := 464) (by decide +kernel))) rfl
theorem wm_401 : Cond.instanceMethod yX0_reasonFor ∈ sm_tbl := sm_in (List.mem_append_right _ (List.mem_of_getElem? (i := 465) (by decide +kernel))) rfl
theorem wm_402 : Cond.selects RX0 yX0_reasonFor yX0_reasonFor ∈ sm_tbl := sm_in (List.mem_append_right _ (List.mem_of_getElem? (i := 466) (by decide +kernel))) rfl
theorem wm_403 : Cond.code yX0_reasonFor cX0_reasonFor 3 (some .int) ∈ sm_tbl := sm_in (List.mem_append_right _ (List.mem_of_getElem? (i := 467) (by decide +kernel))) rfl
theorem wm_405 : Cond.methodLink RX7 130 yX6_total ∈ sm_tbl := sm_in (List.mem_append_right _ (List.mem_of_getElem? (i := 468) (by decide +kernel))) rfl
theorem wm_406 : Cond.instanceMethod yX6_total ∈ sm_tbl := sm_in (List.mem_append_right _ (List.mem_of_getElem? (i := 469) (by decide +kernel))) rfl
theorem wm_407 : Cond.selects RX6 yX6_total yX6_total ∈ sm_tbl := sm_in (List.mem_append_right _ (List.mem_of_getElem? (i := 470) (by decide +kernel))) rfl
theorem wm_408 : Cond.code yX6_total cX6_total 1 (some .int) ∈ sm_tbl := sm_in (List.mem_append_right _ (List.mem_of_getElem? (i := 471) (by decide +kernel))) rfl
theorem wm_410 : Cond.methodLink RX7 134 yX6_mostBlamed ∈ sm_tbl := sm_in (List.mem_append_right _ (List.mem_of_getElem? (i := 472) (by decide +kernel))) rfl
theorem wm_411 : Cond.instanceMethod yX6_mostBlamed ∈ sm_tbl := sm_in (List.mem_append_right _ (List.mem_of_getElem? (i := 473) (by decide +kernel))) rfl
theorem wm_412 : Cond.selects RX6 yX6_mostBlamed yX6_mostBlamed ∈ sm_tbl := sm_in (List.mem_append_right _ (List.mem_of_getElem? (i := 474) (by decide +kernel))) rfl
theorem wm_413 : Cond.code yX6_mostBlamed cX6_mostBlamed 3 (some .int) ∈ sm_tbl := sm_in (List.mem_append_right _ (List.mem_of_getElem? (i := 475) (by decide +kernel))) rfl
theorem wm_415 : Cond.methodLink RX7 137 yX6_forReason ∈ sm_tbl := sm_in (List.mem_append_right _ (List.mem_of_getElem? (i := 476) (by decide +kernel))) rfl
theorem wm_416 : Cond.instanceMethod yX6_forReason ∈ sm_tbl := sm_in (List.mem_append_right _ (List.mem_of_getElem? (i := 477) (by decide +kernel))) rfl
theorem wm_417 : Cond.selects RX6 yX6_forReason yX6_forReason ∈ sm_tbl := sm_in (List.mem_append_right _ (List.mem_of_getElem? (i := 478) (by decide +kernel))) rfl
theorem wm_418 : Cond.code yX6_forReason cX6_forReason 2 (some .int) ∈ sm_tbl := sm_in (List.mem_append_right _ (List.mem_of_getElem? (i := 479) (by decide +kernel))) rfl
theorem wm_420 : Cond.methodLink RL 48 yX7_count ∈ sm_tbl := sm_in (List.mem_append_right _ (List.mem_of_getElem? (i := 480) (by decide +kernel))) rfl
theorem wm_421 : Cond.instanceMethod yX7_count ∈ sm_tbl := sm_in (List.mem_append_right _ (List.mem_of_getElem? (i := 481) (by decide +kernel))) rfl
theorem wm_422 : Cond.selects RX7 yX7_count yX7_count ∈ sm_tbl := sm_in (List.mem_append_right _ (List.mem_of_getElem? (i := 482) (by decide +kernel))) rfl
theorem wm_423 : Cond.code yX7_count cX7_count 2 (some .int) ∈ sm_tbl := sm_in (List.mem_append_right _ (List.mem_of_getElem? (i := 483) (by decide +kernel))) rfl
theorem wm_425 : Cond.methodLink RL 52 yX7_day ∈ sm_tbl := sm_in (List.mem_append_right _ (List.mem_of_getElem? (i := 484) (by decide +kernel))) rfl
theorem wm_426 : Cond.instanceMethod yX7_day ∈ sm_tbl := sm_in (List.mem_append_right _ (List.mem_of_getElem? (i := 485) (by decide +kernel))) rfl
theorem wm_427 : Cond.selects RX7 yX7_day yX7_day ∈ sm_tbl := sm_in (List.mem_append_right _ (List.mem_of_getElem? (i := 486) (by decide +kernel))) rfl
theorem wm_428 : Cond.code yX7_day cX7_day 2 (some .int) ∈ sm_tbl := sm_in (List.mem_append_right _ (List.mem_of_getElem? (i := 487) (by decide +kernel))) rfl
theorem wm_430 : Cond.methodLink RX7 163 yX0_delay ∈ sm_tbl := sm_in (List.mem_append_right _ (List.mem_of_getElem? (i := 488) (by decide +kernel))) rfl
theorem wm_431 : Cond.instanceMethod yX0_delay ∈ sm_tbl := sm_in (List.mem_append_right _ (List.mem_of_getElem? (i := 489) (by decide +kernel))) rfl
theorem wm_432 : Cond.selects RX0 yX0_delay yX0_delay ∈ sm_tbl := sm_in (List.mem_append_right _ (List.mem_of_getElem? (i := 490) (by decide +kernel))) rfl
theorem wm_433 : Cond.code yX0_delay cX0_delay 3 (some .int) ∈ sm_tbl := sm_in (List.mem_append_right _ (List.mem_of_getElem? (i := 491) (by decide +kernel))) rfl
theorem wm_435 : Cond.methodLink RX0 139 yX0_delayOf ∈ sm_tbl := sm_in (List.mem_append_right _ (List.mem_of_getElem? (i := 492) (by decide +kernel))) rfl
theorem wm_436 : Cond.methodLink RX7 169 yX3_gather ∈ sm_tbl := sm_in (List.mem_append_right _ (List.mem_of_getElem? (i := 493) (by decide +kernel))) rfl
theorem wm_437 : Cond.instanceMethod yX3_gather ∈ sm_tbl := sm_in (List.mem_append_right _ (List.mem_of_getElem? (i := 494) (by decide +kernel))) rfl
theorem wm_438 : Cond.selects RX3 yX3_gather yX3_gather ∈ sm_tbl := sm_in (List.mem_append_right _ (List.mem_of_getElem? (i := 495) (by decide +kernel))) rfl
theorem wm_439 : Cond.code yX3_gather cX3_gather 4 none ∈ sm_tbl := sm_in (List.mem_append_right _ (List.mem_of_getElem? (i := 496) (by decide +kernel))) rfl
theorem wm_441 : Cond.methodLink RX3 30 yX2_goesUp ∈ sm_tbl := sm_in (List.mem_append_right _ (List.mem_of_getElem? (i := 497) (by decide +kernel))) rfl
theorem wm_442 : Cond.methodLink RX3 34 yX3_gatherPair ∈ sm_tbl := sm_in (List.mem_append_right _ (List.mem_of_getElem? (i := 498) (by decide +kernel))) rfl
theorem wm_443 : Cond.instanceMethod yX3_gatherPair ∈ sm_tbl := sm_in (List.mem_append_right _ (List.mem_of_getElem? (i := 500) (by decide +kernel))) rfl
theorem wm_444 : Cond.code yX3_gatherPair cX3_gatherPair 6 none ∈ sm_tbl := sm_in (List.mem_append_right _ (List.mem_of_getElem? (i := 501) (by decide +kernel))) rfl
theorem wm_446 : Cond.methodLink RX3 38 yX0_wasOnTrack ∈ sm_tbl := sm_in (List.mem_append_right _ (List.mem_of_getElem? (i := 502) (by decide +kernel))) rfl
theorem wm_447 : Cond.methodLink RX3 46 yJ9_max_7cf53 ∈ sm_tbl := sm_in (List.mem_append_right _ (List.mem_of_getElem? (i := 503) (by decide +kernel))) rfl
theorem wm_448 : Cond.methodLink RX3 52 yX3_isThere ∈ sm_tbl := sm_in (List.mem_append_right _ (List.mem_of_getElem? (i := 504) (by decide +kernel))) rfl
theorem wm_449 : Cond.static yX3_isThere ∈ sm_tbl := sm_in (List.mem_append_right _ (List.mem_of_getElem? (i := 505) (by decide +kernel))) rfl
theorem wm_450 : Cond.code yX3_isThere cX3_isThere 4 (some .boolean) ∈ sm_tbl := sm_in (List.mem_append_right _ (List.mem_of_getElem? (i := 506) (by decide +kernel))) rfl
theorem wm_452 : Cond.methodLink RX3 56 yX3_insert ∈ sm_tbl := sm_in (List.mem_append_right _ (List.mem_of_getElem? (i := 507) (by decide +kernel))) rfl
theorem wm_453 : Cond.instanceMethod yX3_insert ∈ sm_tbl := sm_in (List.mem_append_right _ (List.mem_of_getElem? (i := 509) (by decide +kernel))) rfl
theorem wm_454 : Cond.code yX3_insert cX3_insert 3 none ∈ sm_tbl := sm_in (List.mem_append_right _ (List.mem_of_getElem? (i := 510) (by decide +kernel))) rfl
theorem wm_456 : Cond.methodLink RX7 174 yX0_waitedMinutes ∈ sm_tbl := sm_in (List.mem_append_right _ (List.mem_of_getElem? (i := 511) (by decide +kernel))) rfl
theorem wm_457 : Cond.instanceMethod yX0_waitedMinutes ∈ sm_tbl := sm_in (List.mem_append_right _ (List.mem_of_getElem? (i := 512) (by decide +kernel))) rfl
theorem wm_458 : Cond.selects RX0 yX0_waitedMinutes yX0_waitedMinutes ∈ sm_tbl := sm_in (List.mem_append_right _ (List.mem_of_getElem? (i := 513) (by decide +kernel))) rfl
theorem wm_459 : Cond.code yX0_waitedMinutes cX0_waitedMinutes 4 (some .int) ∈ sm_tbl := sm_in (List.mem_append_right _ (List.mem_of_getElem? (i := 514) (by decide +kernel))) rfl
theorem wm_461 : Cond.methodLink RX0 150 yX0_stoodAt ∈ sm_tbl := sm_in (List.mem_append_right _ (List.mem_of_getElem? (i := 515) (by decide +kernel))) rfl
theorem wm_462 : Cond.methodLink RX0 153 yX0_goneFrom ∈ sm_tbl := sm_in (List.mem_append_right _ (List.mem_of_getElem? (i := 516) (by decide +kernel))) rfl
theorem wm_463 : Cond.methodLink RX0 156 yX0_readyAt ∈ sm_tbl := sm_in (List.mem_append_right _ (List.mem_of_getElem? (i := 517) (by decide +kernel))) rfl
theorem wm_464 : Cond.methodLink RX7 177 yX0_greatestDelay ∈ sm_tbl := sm_in (List.mem_append_right _ (List.mem_of_getElem? (i := 518) (by decide +kernel))) rfl
theorem wm_465 : Cond.instanceMethod yX0_greatestDelay ∈ sm_tbl := sm_in (List.mem_append_right _ (List.mem_of_getElem? (i := 519) (by decide +kernel))) rfl
theorem wm_466 : Cond.selects RX0 yX0_greatestDelay yX0_greatestDelay ∈ sm_tbl := sm_in (List.mem_append_right _ (List.mem_of_getElem? (i := 520) (by decide +kernel))) rfl
theorem wm_467 : Cond.code yX0_greatestDelay cX0_greatestDelay 3 (some .int) ∈ sm_tbl := sm_in (List.mem_append_right _ (List.mem_of_getElem? (i := 521) (by decide +kernel))) rfl
theorem wm_469 : Cond.methodLink RL 56 yX7_at ∈ sm_tbl := sm_in (List.mem_append_right _ (List.mem_of_getElem? (i := 522) (by decide +kernel))) rfl
theorem wm_470 : Cond.instanceMethod yX7_at ∈ sm_tbl := sm_in (List.mem_append_right _ (List.mem_of_getElem? (i := 523) (by decide +kernel))) rfl
theorem wm_471 : Cond.selects RX7 yX7_at yX7_at ∈ sm_tbl := sm_in (List.mem_append_right _ (List.mem_of_getElem? (i := 524) (by decide +kernel))) rfl
theorem wm_472 : Cond.code yX7_at cX7_at 3 (some .int) ∈ sm_tbl := sm_in (List.mem_append_right _ (List.mem_of_getElem? (i := 525) (by decide +kernel))) rfl
theorem wm_474 : Cond.methodLink RX7 180 yX0_placeAt ∈ sm_tbl := sm_in (List.mem_append_right _ (List.mem_of_getElem? (i := 526) (by decide +kernel))) rfl
theorem wm_475 : Cond.instanceMethod yX0_placeAt ∈ sm_tbl := sm_in (List.mem_append_right _ (List.mem_of_getElem? (i := 527) (by decide +kernel))) rfl
theorem wm_476 : Cond.selects RX0 yX0_placeAt yX0_placeAt ∈ sm_tbl := sm_in (List.mem_append_right _ (List.mem_of_getElem? (i := 528) (by decide +kernel))) rfl
theorem wm_477 : Cond.code yX0_placeAt cX0_placeAt 7 (some .int) ∈ sm_tbl := sm_in (List.mem_append_right _ (List.mem_of_getElem? (i := 529) (by decide +kernel))) rfl
theorem wm_479 : Cond.methodLink RX0 159 yJ9_abs_0f7a4 ∈ sm_tbl := sm_in (List.mem_append_right _ (List.mem_of_getElem? (i := 530) (by decide +kernel))) rfl
theorem wm_480 : Cond.static yJ9_abs_0f7a4 ∈ sm_tbl := sm_in (List.mem_append_right _ (List.mem_of_getElem? (i := 531) (by decide +kernel))) rfl
theorem wm_481 : Cond.code yJ9_abs_0f7a4 cJ9_abs_0f7a4 1 (some .int) ∈ sm_tbl := sm_in (List.mem_append_right _ (List.mem_of_getElem? (i := 532) (by decide +kernel))) rfl
theorem wm_483 : Cond.methodLink RL 60 yX7_when ∈ sm_tbl := sm_in (List.mem_append_right _ (List.mem_of_getElem? (i := 533) (by decide +kernel))) rfl
theorem wm_484 : Cond.instanceMethod yX7_when ∈ sm_tbl := sm_in (List.mem_append_right _ (List.mem_of_getElem? (i := 534) (by decide +kernel))) rfl
theorem wm_485 : Cond.selects RX7 yX7_when yX7_when ∈ sm_tbl := sm_in (List.mem_append_right _ (List.mem_of_getElem? (i := 535) (by decide +kernel))) rfl
theorem wm_486 : Cond.code yX7_when cX7_when 4 (some .int) ∈ sm_tbl := sm_in (List.mem_append_right _ (List.mem_of_getElem? (i := 536) (by decide +kernel))) rfl
theorem wm_488 : Cond.methodLink RX7 183 yX7_isStation ∈ sm_tbl := sm_in (List.mem_append_right _ (List.mem_of_getElem? (i := 537) (by decide +kernel))) rfl
theorem wm_489 : Cond.methodLink RL 65 yX7_why ∈ sm_tbl := sm_in (List.mem_append_right _ (List.mem_of_getElem? (i := 538) (by decide +kernel))) rfl
theorem wm_490 : Cond.instanceMethod yX7_why ∈ sm_tbl := sm_in (List.mem_append_right _ (List.mem_of_getElem? (i := 539) (by decide +kernel))) rfl
theorem wm_491 : Cond.selects RX7 yX7_why yX7_why ∈ sm_tbl := sm_in (List.mem_append_right _ (List.mem_of_getElem? (i := 540) (by decide +kernel))) rfl
theorem wm_492 : Cond.code yX7_why cX7_why 3 (some .int) ∈ sm_tbl := sm_in (List.mem_append_right _ (List.mem_of_getElem? (i := 541) (by decide +kernel))) rfl
theorem wm_494 : Cond.methodLink RX7 193 yX0_reasonAt ∈ sm_tbl := sm_in (List.mem_append_right _ (List.mem_of_getElem? (i := 542) (by decide +kernel))) rfl
theorem wm_495 : Cond.instanceMethod yX0_reasonAt ∈ sm_tbl := sm_in (List.mem_append_right _ (List.mem_of_getElem? (i := 543) (by decide +kernel))) rfl
theorem wm_496 : Cond.selects RX0 yX0_reasonAt yX0_reasonAt ∈ sm_tbl := sm_in (List.mem_append_right _ (List.mem_of_getElem? (i := 544) (by decide +kernel))) rfl
theorem wm_497 : Cond.code yX0_reasonAt cX0_reasonAt 7 (some .int) ∈ sm_tbl := sm_in (List.mem_append_right _ (List.mem_of_getElem? (i := 545) (by decide +kernel))) rfl
theorem wm_499 : Cond.methodLink RX0 162 yX0_placeAt ∈ sm_tbl := sm_in (List.mem_append_right _ (List.mem_of_getElem? (i := 546) (by decide +kernel))) rfl
theorem wm_500 : Cond.methodLink RX0 165 yX0_minutesOn ∈ sm_tbl := sm_in (List.mem_append_right _ (List.mem_of_getElem? (i := 547) (by decide +kernel))) rfl
theorem wm_501 : Cond.methodLink RX0 169 yX0_reasonFor ∈ sm_tbl := sm_in (List.mem_append_right _ (List.mem_of_getElem? (i := 548) (by decide +kernel))) rfl
theorem wm_502 : Cond.methodLink RL 69 yX7_meeting ∈ sm_tbl := sm_in (List.mem_append_right _ (List.mem_of_getElem? (i := 549) (by decide +kernel))) rfl
theorem wm_503 : Cond.instanceMethod yX7_meeting ∈ sm_tbl := sm_in (List.mem_append_right _ (List.mem_of_getElem? (i := 550) (by decide +kernel))) rfl
theorem wm_504 : Cond.selects RX7 yX7_meeting yX7_meeting ∈ sm_tbl := sm_in (List.mem_append_right _ (List.mem_of_getElem? (i := 551) (by decide +kernel))) rfl
theorem wm_505 : Cond.code yX7_meeting cX7_meeting 3 (some .int) ∈ sm_tbl := sm_in (List.mem_append_right _ (List.mem_of_getElem? (i := 552) (by decide +kernel))) rfl
theorem wm_507 : Cond.methodLink RX7 196 yX3_part ∈ sm_tbl := sm_in (List.mem_append_right _ (List.mem_of_getElem? (i := 553) (by decide +kernel))) rfl
theorem wm_508 : Cond.instanceMethod yX3_part ∈ sm_tbl := sm_in (List.mem_append_right _ (List.mem_of_getElem? (i := 554) (by decide +kernel))) rfl
theorem wm_509 : Cond.selects RX3 yX3_part yX3_part ∈ sm_tbl := sm_in (List.mem_append_right _ (List.mem_of_getElem? (i := 555) (by decide +kernel))) rfl
theorem wm_510 : Cond.code yX3_part cX3_part 4 (some .int) ∈ sm_tbl := sm_in (List.mem_append_right _ (List.mem_of_getElem? (i := 556) (by decide +kernel))) rfl
theorem wm_512 : Cond.methodLink RL 73 yX7_delayIfLate ∈ sm_tbl := sm_in (List.mem_append_right _ (List.mem_of_getElem? (i := 557) (by decide +kernel))) rfl
theorem wm_513 : Cond.instanceMethod yX7_delayIfLate ∈ sm_tbl := sm_in (List.mem_append_right _ (List.mem_of_getElem? (i := 558) (by decide +kernel))) rfl
theorem wm_514 : Cond.selects RX7 yX7_delayIfLate yX7_delayIfLate ∈ sm_tbl := sm_in (List.mem_append_right _ (List.mem_of_getElem? (i := 559) (by decide +kernel))) rfl
theorem wm_515 : Cond.code yX7_delayIfLate cX7_delayIfLate 4 (some .int) ∈ sm_tbl := sm_in (List.mem_append_right _ (List.mem_of_getElem? (i := 560) (by decide +kernel))) rfl
theorem wm_517 : Cond.methodLink RX7 199 yX7_trialDelay ∈ sm_tbl := sm_in (List.mem_append_right _ (List.mem_of_getElem? (i := 561) (by decide +kernel))) rfl
theorem wm_518 : Cond.instanceMethod yX7_trialDelay ∈ sm_tbl := sm_in (List.mem_append_right _ (List.mem_of_getElem? (i := 563) (by decide +kernel))) rfl
theorem wm_519 : Cond.code yX7_trialDelay cX7_trialDelay 1 (some .int) ∈ sm_tbl := sm_in (List.mem_append_right _ (List.mem_of_getElem? (i := 564) (by decide +kernel))) rfl
theorem wm_521 : Cond.methodLink RL 77 yX7_delayIfSlow ∈ sm_tbl := sm_in (List.mem_append_right _ (List.mem_of_getElem? (i := 565) (by decide +kernel))) rfl
theorem wm_522 : Cond.instanceMethod yX7_delayIfSlow ∈ sm_tbl := sm_in (List.mem_append_right _ (List.mem_of_getElem? (i := 566) (by decide +kernel))) rfl
theorem wm_523 : Cond.selects RX7 yX7_delayIfSlow yX7_delayIfSlow ∈ sm_tbl := sm_in (List.mem_append_right _ (List.mem_of_getElem? (i := 567) (by decide +kernel))) rfl
theorem wm_524 : Cond.code yX7_delayIfSlow cX7_delayIfSlow 4 (some .int) ∈ sm_tbl := sm_in (List.mem_append_right _ (List.mem_of_getElem? (i := 568) (by decide +kernel))) rfl
theorem wm_526 : Cond.methodLink RL 81 yX7_bestTrack ∈ sm_tbl := sm_in (List.mem_append_right _ (List.mem_of_getElem? (i := 569) (by decide +kernel))) rfl
theorem wm_527 : Cond.instanceMethod yX7_bestTrack ∈ sm_tbl := sm_in (List.mem_append_right _ (List.mem_of_getElem? (i := 570) (by decide +kernel))) rfl
theorem wm_528 : Cond.selects RX7 yX7_bestTrack yX7_bestTrack ∈ sm_tbl := sm_in (List.mem_append_right _ (List.mem_of_getElem? (i := 571) (by decide +kernel))) rfl
theorem wm_529 : Cond.code yX7_bestTrack cX7_bestTrack 7 (some .int) ∈ sm_tbl := sm_in (List.mem_append_right _ (List.mem_of_getElem? (i := 572) (by decide +kernel))) rfl
theorem wm_531 : Cond.methodLink RL 85 yX7_bestOrder ∈ sm_tbl := sm_in (List.mem_append_right _ (List.mem_of_getElem? (i := 573) (by decide +kernel))) rfl
theorem wm_532 : Cond.instanceMethod yX7_bestOrder ∈ sm_tbl := sm_in (List.mem_append_right _ (List.mem_of_getElem? (i := 574) (by decide +kernel))) rfl
theorem wm_533 : Cond.selects RX7 yX7_bestOrder yX7_bestOrder ∈ sm_tbl := sm_in (List.mem_append_right _ (List.mem_of_getElem? (i := 575) (by decide +kernel))) rfl
theorem wm_534 : Cond.code yX7_bestOrder cX7_bestOrder 2 (some .int) ∈ sm_tbl := sm_in (List.mem_append_right _ (List.mem_of_getElem? (i := 576) (by decide +kernel))) rfl
theorem wm_536 : Cond.methodLink RX7 202 yX4_tryAll ∈ sm_tbl := sm_in (List.mem_append_right _ (List.mem_of_getElem? (i := 577) (by decide +kernel))) rfl
theorem wm_537 : Cond.instanceMethod yX4_tryAll ∈ sm_tbl := sm_in (List.mem_append_right _ (List.mem_of_getElem? (i := 578) (by decide +kernel))) rfl
theorem wm_538 : Cond.selects RX4 yX4_tryAll yX4_tryAll ∈ sm_tbl := sm_in (List.mem_append_right _ (List.mem_of_getElem? (i := 579) (by decide +kernel))) rfl
theorem wm_539 : Cond.code yX4_tryAll cX4_tryAll 6 none ∈ sm_tbl := sm_in (List.mem_append_right _ (List.mem_of_getElem? (i := 580) (by decide +kernel))) rfl
theorem wm_541 : Cond.methodLink RX4 30 yJ9_min_7cf53 ∈ sm_tbl := sm_in (List.mem_append_right _ (List.mem_of_getElem? (i := 581) (by decide +kernel))) rfl
theorem wm_542 : Cond.methodLink RX4 45 yX0_run ∈ sm_tbl := sm_in (List.mem_append_right _ (List.mem_of_getElem? (i := 582) (by decide +kernel))) rfl
theorem wm_543 : Cond.methodLink RX4 48 yX0_delay ∈ sm_tbl := sm_in (List.mem_append_right _ (List.mem_of_getElem? (i := 583) (by decide +kernel))) rfl
theorem wm_544 : Cond.methodLink RX4 52 yX4_keepIfBetter ∈ sm_tbl := sm_in (List.mem_append_right _ (List.mem_of_getElem? (i := 584) (by decide +kernel))) rfl
theorem wm_545 : Cond.instanceMethod yX4_keepIfBetter ∈ sm_tbl := sm_in (List.mem_append_right _ (List.mem_of_getElem? (i := 586) (by decide +kernel))) rfl
theorem wm_546 : Cond.code yX4_keepIfBetter cX4_keepIfBetter 3 none ∈ sm_tbl := sm_in (List.mem_append_right _ (List.mem_of_getElem? (i := 587) (by decide +kernel))) rfl
theorem wm_548 : Cond.methodLink RX4 60 arraycopyName ∈ sm_tbl := sm_in (List.mem_append_right _ (List.mem_of_getElem? (i := 588) (by decide +kernel))) rfl
theorem wm_549 : Cond.methodLink RX4 56 yX4_nextOrder ∈ sm_tbl := sm_in (List.mem_append_right _ (List.mem_of_getElem? (i := 589) (by decide +kernel))) rfl
theorem wm_550 : Cond.instanceMethod yX4_nextOrder ∈ sm_tbl := sm_in (List.mem_append_right _ (List.mem_of_getElem? (i := 591) (by decide +kernel))) rfl
theorem wm_551 : Cond.code yX4_nextOrder cX4_nextOrder 6 (some .boolean) ∈ sm_tbl := sm_in (List.mem_append_right _ (List.mem_of_getElem? (i := 592) (by decide +kernel))) rfl
theorem wm_553 : Cond.methodLink RX4 66 yX4_swap ∈ sm_tbl := sm_in (List.mem_append_right _ (List.mem_of_getElem? (i := 593) (by decide +kernel))) rfl
theorem wm_554 : Cond.instanceMethod yX4_swap ∈ sm_tbl := sm_in (List.mem_append_right _ (List.mem_of_getElem? (i := 595) (by decide +kernel))) rfl
theorem wm_555 : Cond.code yX4_swap cX4_swap 4 none ∈ sm_tbl := sm_in (List.mem_append_right _ (List.mem_of_getElem? (i := 596) (by decide +kernel))) rfl
theorem wm_557 : Cond.methodLink RL 91 yX7_put ∈ sm_tbl := sm_in (List.mem_append_right _ (List.mem_of_getElem? (i := 597) (by decide +kernel))) rfl
theorem wm_558 : Cond.instanceMethod yX7_put ∈ sm_tbl := sm_in (List.mem_append_right _ (List.mem_of_getElem? (i := 598) (by decide +kernel))) rfl
theorem wm_559 : Cond.selects RX7 yX7_put yX7_put ∈ sm_tbl := sm_in (List.mem_append_right _ (List.mem_of_getElem? (i := 599) (by decide +kernel))) rfl
theorem wm_560 : Cond.code yX7_put cX7_put 4 (some .int) ∈ sm_tbl := sm_in (List.mem_append_right _ (List.mem_of_getElem? (i := 600) (by decide +kernel))) rfl
theorem wm_562 : Cond.methodLink RX7 211 yX5_charactersIn ∈ sm_tbl := sm_in (List.mem_append_right _ (List.mem_of_getElem? (i := 601) (by decide +kernel))) rfl
theorem wm_563 : Cond.static yX5_charactersIn ∈ sm_tbl := sm_in (List.mem_append_right _ (List.mem_of_getElem? (i := 602) (by decide +kernel))) rfl
theorem wm_564 : Cond.code yX5_charactersIn cX5_charactersIn 8 (some .int) ∈ sm_tbl := sm_in (List.mem_append_right _ (List.mem_of_getElem? (i := 603) (by decide +kernel))) rfl
theorem wm_566 : Cond.constantLong RX5 19 255 ∈ sm_tbl := sm_in (List.mem_append_right _ (List.mem_of_getElem? (i := 604) (by decide +kernel))) rfl
theorem wm_568 : Cond.constantLong RX5 21 33 ∈ sm_tbl := sm_in (List.mem_append_right _ (List.mem_of_getElem? (i := 605) (by decide +kernel))) rfl
theorem wm_570 : Cond.constantLong RX5 23 126 ∈ sm_tbl := sm_in (List.mem_append_right _ (List.mem_of_getElem? (i := 606) (by decide +kernel))) rfl
theorem wm_572 : Cond.methodLink RX7 215 yX5_append ∈ sm_tbl := sm_in (List.mem_append_right _ (List.mem_of_getElem? (i := 607) (by decide +kernel))) rfl
theorem wm_573 : Cond.instanceMethod yX5_append ∈ sm_tbl := sm_in (List.mem_append_right _ (List.mem_of_getElem? (i := 608) (by decide +kernel))) rfl
theorem wm_574 : Cond.selects RX5 yX5_append yX5_append ∈ sm_tbl := sm_in (List.mem_append_right _ (List.mem_of_getElem? (i := 609) (by decide +kernel))) rfl
theorem wm_575 : Cond.code yX5_append cX5_append 5 (some .int) ∈ sm_tbl := sm_in (List.mem_append_right _ (List.mem_of_getElem? (i := 610) (by decide +kernel))) rfl
theorem wm_577 : Cond.methodLink RL 96 yX7_wipe ∈ sm_tbl := sm_in (List.mem_append_right _ (List.mem_of_getElem? (i := 611) (by decide +kernel))) rfl
theorem wm_578 : Cond.instanceMethod yX7_wipe ∈ sm_tbl := sm_in (List.mem_append_right _ (List.mem_of_getElem? (i := 612) (by decide +kernel))) rfl
theorem wm_579 : Cond.selects RX7 yX7_wipe yX7_wipe ∈ sm_tbl := sm_in (List.mem_append_right _ (List.mem_of_getElem? (i := 613) (by decide +kernel))) rfl
theorem wm_580 : Cond.code yX7_wipe cX7_wipe 1 (some .int) ∈ sm_tbl := sm_in (List.mem_append_right _ (List.mem_of_getElem? (i := 614) (by decide +kernel))) rfl
theorem wm_582 : Cond.methodLink RX7 219 yX5_empty ∈ sm_tbl := sm_in (List.mem_append_right _ (List.mem_of_getElem? (i := 615) (by decide +kernel))) rfl
theorem wm_583 : Cond.instanceMethod yX5_empty ∈ sm_tbl := sm_in (List.mem_append_right _ (List.mem_of_getElem? (i := 616) (by decide +kernel))) rfl
theorem wm_584 : Cond.selects RX5 yX5_empty yX5_empty ∈ sm_tbl := sm_in (List.mem_append_right _ (List.mem_of_getElem? (i := 617) (by decide +kernel))) rfl
theorem wm_585 : Cond.code yX5_empty cX5_empty 2 (some .int) ∈ sm_tbl := sm_in (List.mem_append_right _ (List.mem_of_getElem? (i := 618) (by decide +kernel))) rfl
theorem wm_587 : Cond.methodLink RL 101 yX7_fault ∈ sm_tbl := sm_in (List.mem_append_right _ (List.mem_of_getElem? (i := 619) (by decide +kernel))) rfl
theorem wm_588 : Cond.instanceMethod yX7_fault ∈ sm_tbl := sm_in (List.mem_append_right _ (List.mem_of_getElem? (i := 620) (by decide +kernel))) rfl
theorem wm_589 : Cond.selects RX7 yX7_fault yX7_fault ∈ sm_tbl := sm_in (List.mem_append_right _ (List.mem_of_getElem? (i := 621) (by decide +kernel))) rfl
theorem wm_590 : Cond.code yX7_fault cX7_fault 1 (some .int) ∈ sm_tbl := sm_in (List.mem_append_right _ (List.mem_of_getElem? (i := 622) (by decide +kernel))) rfl
theorem wm_592 : Cond.methodLink RX7 222 yX5_findFault ∈ sm_tbl := sm_in (List.mem_append_right _ (List.mem_of_getElem? (i := 623) (by decide +kernel))) rfl
theorem wm_593 : Cond.instanceMethod yX5_findFault ∈ sm_tbl := sm_in (List.mem_append_right _ (List.mem_of_getElem? (i := 624) (by decide +kernel))) rfl
theorem wm_594 : Cond.selects RX5 yX5_findFault yX5_findFault ∈ sm_tbl := sm_in (List.mem_append_right _ (List.mem_of_getElem? (i := 625) (by decide +kernel))) rfl
theorem wm_595 : Cond.code yX5_findFault cX5_findFault 2 (some .int) ∈ sm_tbl := sm_in (List.mem_append_right _ (List.mem_of_getElem? (i := 626) (by decide +kernel))) rfl
theorem wm_597 : Cond.methodLink RX5 32 yX5_readOrder ∈ sm_tbl := sm_in (List.mem_append_right _ (List.mem_of_getElem? (i := 627) (by decide +kernel))) rfl
theorem wm_598 : Cond.instanceMethod yX5_readOrder ∈ sm_tbl := sm_in (List.mem_append_right _ (List.mem_of_getElem? (i := 629) (by decide +kernel))) rfl
theorem wm_599 : Cond.code yX5_readOrder cX5_readOrder 1 (some .boolean) ∈ sm_tbl := sm_in (List.mem_append_right _ (List.mem_of_getElem? (i := 630) (by decide +kernel))) rfl
theorem wm_601 : Cond.methodLink RX5 70 yJ7_fill_53178 ∈ sm_tbl := sm_in (List.mem_append_right _ (List.mem_of_getElem? (i := 631) (by decide +kernel))) rfl
theorem wm_602 : Cond.methodLink RX5 76 yX5_peek ∈ sm_tbl := sm_in (List.mem_append_right _ (List.mem_of_getElem? (i := 632) (by decide +kernel))) rfl
theorem wm_603 : Cond.instanceMethod yX5_peek ∈ sm_tbl := sm_in (List.mem_append_right _ (List.mem_of_getElem? (i := 634) (by decide +kernel))) rfl
theorem wm_604 : Cond.code yX5_peek cX5_peek 1 (some .int) ∈ sm_tbl := sm_in (List.mem_append_right _ (List.mem_of_getElem? (i := 635) (by decide +kernel))) rfl
theorem wm_606 : Cond.methodLink RX5 80 yX5_readShuttle ∈ sm_tbl := sm_in (List.mem_append_right _ (List.mem_of_getElem? (i := 636) (by decide +kernel))) rfl
theorem wm_607 : Cond.instanceMethod yX5_readShuttle ∈ sm_tbl := sm_in (List.mem_append_right _ (List.mem_of_getElem? (i := 638) (by decide +kernel))) rfl
theorem wm_608 : Cond.code yX5_readShuttle cX5_readShuttle 1 (some .boolean) ∈ sm_tbl := sm_in (List.mem_append_right _ (List.mem_of_getElem? (i := 639) (by decide +kernel))) rfl
theorem wm_610 : Cond.methodLink RX5 83 yX5_readDigit ∈ sm_tbl := sm_in (List.mem_append_right _ (List.mem_of_getElem? (i := 640) (by decide +kernel))) rfl
theorem wm_611 : Cond.instanceMethod yX5_readDigit ∈ sm_tbl := sm_in (List.mem_append_right _ (List.mem_of_getElem? (i := 642) (by decide +kernel))) rfl
theorem wm_612 : Cond.code yX5_readDigit cX5_readDigit 4 (some .boolean) ∈ sm_tbl := sm_in (List.mem_append_right _ (List.mem_of_getElem? (i := 643) (by decide +kernel))) rfl
theorem wm_614 : Cond.methodLink RX5 36 yX5_readSign ∈ sm_tbl := sm_in (List.mem_append_right _ (List.mem_of_getElem? (i := 644) (by decide +kernel))) rfl
theorem wm_615 : Cond.instanceMethod yX5_readSign ∈ sm_tbl := sm_in (List.mem_append_right _ (List.mem_of_getElem? (i := 646) (by decide +kernel))) rfl
theorem wm_616 : Cond.code yX5_readSign cX5_readSign 2 (some .boolean) ∈ sm_tbl := sm_in (List.mem_append_right _ (List.mem_of_getElem? (i := 647) (by decide +kernel))) rfl
theorem wm_618 : Cond.methodLink RX5 87 yX5_readNumber ∈ sm_tbl := sm_in (List.mem_append_right _ (List.mem_of_getElem? (i := 648) (by decide +kernel))) rfl
theorem wm_619 : Cond.instanceMethod yX5_readNumber ∈ sm_tbl := sm_in (List.mem_append_right _ (List.mem_of_getElem? (i := 650) (by decide +kernel))) rfl
theorem wm_620 : Cond.code yX5_readNumber cX5_readNumber 4 (some .boolean) ∈ sm_tbl := sm_in (List.mem_append_right _ (List.mem_of_getElem? (i := 651) (by decide +kernel))) rfl
theorem wm_622 : Cond.methodLink RL 105 yX7_carryOut ∈ sm_tbl := sm_in (List.mem_append_right _ (List.mem_of_getElem? (i := 652) (by decide +kernel))) rfl
theorem wm_623 : Cond.instanceMethod yX7_carryOut ∈ sm_tbl := sm_in (List.mem_append_right _ (List.mem_of_getElem? (i := 653) (by decide +kernel))) rfl
theorem wm_624 : Cond.selects RX7 yX7_carryOut yX7_carryOut ∈ sm_tbl := sm_in (List.mem_append_right _ (List.mem_of_getElem? (i := 654) (by decide +kernel))) rfl
theorem wm_625 : Cond.code yX7_carryOut cX7_carryOut 2 (some .int) ∈ sm_tbl := sm_in (List.mem_append_right _ (List.mem_of_getElem? (i := 655) (by decide +kernel))) rfl
theorem wm_627 : Cond.methodLink RX7 225 yX5_obey ∈ sm_tbl := sm_in (List.mem_append_right _ (List.mem_of_getElem? (i := 656) (by decide +kernel))) rfl
theorem wm_628 : Cond.instanceMethod yX5_obey ∈ sm_tbl := sm_in (List.mem_append_right _ (List.mem_of_getElem? (i := 657) (by decide +kernel))) rfl
theorem wm_629 : Cond.selects RX5 yX5_obey yX5_obey ∈ sm_tbl := sm_in (List.mem_append_right _ (List.mem_of_getElem? (i := 658) (by decide +kernel))) rfl
theorem wm_630 : Cond.code yX5_obey cX5_obey 4 (some .int) ∈ sm_tbl := sm_in (List.mem_append_right _ (List.mem_of_getElem? (i := 659) (by decide +kernel))) rfl
theorem wm_632 : Cond.methodLink RX5 40 yX5_obeyOrder ∈ sm_tbl := sm_in (List.mem_append_right _ (List.mem_of_getElem? (i := 660) (by decide +kernel))) rfl
theorem wm_633 : Cond.instanceMethod yX5_obeyOrder ∈ sm_tbl := sm_in (List.mem_append_right _ (List.mem_of_getElem? (i := 662) (by decide +kernel))) rfl
theorem wm_634 : Cond.code yX5_obeyOrder cX5_obeyOrder 2 (some .int) ∈ sm_tbl := sm_in (List.mem_append_right _ (List.mem_of_getElem? (i := 663) (by decide +kernel))) rfl
theorem wm_636 : Cond.methodLink RX5 47 yX2_addShuttle ∈ sm_tbl := sm_in (List.mem_append_right _ (List.mem_of_getElem? (i := 664) (by decide +kernel))) rfl
theorem wm_637 : Cond.methodLink RX5 53 yX2_startLater ∈ sm_tbl := sm_in (List.mem_append_right _ (List.mem_of_getElem? (i := 665) (by decide +kernel))) rfl
theorem wm_638 : Cond.methodLink RX5 57 yX2_setTracks ∈ sm_tbl := sm_in (List.mem_append_right _ (List.mem_of_getElem? (i := 666) (by decide +kernel))) rfl
theorem wm_639 : Cond.methodLink RX5 60 yX2_setRunning ∈ sm_tbl := sm_in (List.mem_append_right _ (List.mem_of_getElem? (i := 667) (by decide +kernel))) rfl
theorem wm_640 : Cond.methodLink RX5 63 yX2_setPriority ∈ sm_tbl := sm_in (List.mem_append_right _ (List.mem_of_getElem? (i := 668) (by decide +kernel))) rfl
theorem wm_641 : Cond.methodLink RX5 66 yX2_takeAway ∈ sm_tbl := sm_in (List.mem_append_right _ (List.mem_of_getElem? (i := 669) (by decide +kernel))) rfl
theorem wm_642 : Cond.methodLink RL 109 yX7_undo ∈ sm_tbl := sm_in (List.mem_append_right _ (List.mem_of_getElem? (i := 670) (by decide +kernel))) rfl
theorem wm_643 : Cond.instanceMethod yX7_undo ∈ sm_tbl := sm_in (List.mem_append_right _ (List.mem_of_getElem? (i := 671) (by decide +kernel))) rfl
theorem wm_644 : Cond.selects RX7 yX7_undo yX7_undo ∈ sm_tbl := sm_in (List.mem_append_right _ (List.mem_of_getElem? (i := 672) (by decide +kernel))) rfl
theorem wm_645 : Cond.code yX7_undo cX7_undo 1 (some .int) ∈ sm_tbl := sm_in (List.mem_append_right _ (List.mem_of_getElem? (i := 673) (by decide +kernel))) rfl
theorem wm_647 : Cond.methodLink RX7 229 yX1_giveBack ∈ sm_tbl := sm_in (List.mem_append_right _ (List.mem_of_getElem? (i := 674) (by decide +kernel))) rfl
theorem wm_648 : Cond.instanceMethod yX1_giveBack ∈ sm_tbl := sm_in (List.mem_append_right _ (List.mem_of_getElem? (i := 675) (by decide +kernel))) rfl
theorem wm_649 : Cond.selects RX1 yX1_giveBack yX1_giveBack ∈ sm_tbl := sm_in (List.mem_append_right _ (List.mem_of_getElem? (i := 676) (by decide +kernel))) rfl
theorem wm_650 : Cond.code yX1_giveBack cX1_giveBack 2 (some .int) ∈ sm_tbl := sm_in (List.mem_append_right _ (List.mem_of_getElem? (i := 677) (by decide +kernel))) rfl
theorem wm_652 : Cond.methodLink RL 113 yX7_save ∈ sm_tbl := sm_in (List.mem_append_right _ (List.mem_of_getElem? (i := 678) (by decide +kernel))) rfl
theorem wm_653 : Cond.instanceMethod yX7_save ∈ sm_tbl := sm_in (List.mem_append_right _ (List.mem_of_getElem? (i := 679) (by decide +kernel))) rfl
theorem wm_654 : Cond.selects RX7 yX7_save yX7_save ∈ sm_tbl := sm_in (List.mem_append_right _ (List.mem_of_getElem? (i := 680) (by decide +kernel))) rfl
theorem wm_655 : Cond.code yX7_save cX7_save 2 (some .int) ∈ sm_tbl := sm_in (List.mem_append_right _ (List.mem_of_getElem? (i := 681) (by decide +kernel))) rfl
theorem wm_657 : Cond.methodLink RX7 232 yX7_isSlot ∈ sm_tbl := sm_in (List.mem_append_right _ (List.mem_of_getElem? (i := 682) (by decide +kernel))) rfl
theorem wm_658 : Cond.static yX7_isSlot ∈ sm_tbl := sm_in (List.mem_append_right _ (List.mem_of_getElem? (i := 683) (by decide +kernel))) rfl
theorem wm_659 : Cond.code yX7_isSlot cX7_isSlot 1 (some .boolean) ∈ sm_tbl := sm_in (List.mem_append_right _ (List.mem_of_getElem? (i := 684) (by decide +kernel))) rfl
theorem wm_661 : Cond.methodLink RL 117 yX7_restore ∈ sm_tbl := sm_in (List.mem_append_right _ (List.mem_of_getElem? (i := 685) (by decide +kernel))) rfl
theorem wm_662 : Cond.instanceMethod yX7_restore ∈ sm_tbl := sm_in (List.mem_append_right _ (List.mem_of_getElem? (i := 686) (by decide +kernel))) rfl
theorem wm_663 : Cond.selects RX7 yX7_restore yX7_restore ∈ sm_tbl := sm_in (List.mem_append_right _ (List.mem_of_getElem? (i := 687) (by decide +kernel))) rfl
theorem wm_664 : Cond.code yX7_restore cX7_restore 2 (some .int) ∈ sm_tbl := sm_in (List.mem_append_right _ (List.mem_of_getElem? (i := 688) (by decide +kernel))) rfl
theorem wm_666 : Cond.classLink RL 10 RX8 ∈ sm_tbl := sm_in (List.mem_append_right _ (List.mem_of_getElem? (i := 689) (by decide +kernel))) rfl
theorem wm_667 : Cond.instantiable RX8 30 ∈ sm_tbl := sm_in (List.mem_append_right _ (List.mem_of_getElem? (i := 690) (by decide +kernel))) rfl
theorem wm_668 : Cond.methodLink RL 12 yX8_init ∈ sm_tbl := sm_in (List.mem_append_right _ (List.mem_of_getElem? (i := 691) (by decide +kernel))) rfl
theorem wm_669 : Cond.instanceMethod yX8_init ∈ sm_tbl := sm_in (List.mem_append_right _ (List.mem_of_getElem? (i := 692) (by decide +kernel))) rfl
theorem wm_670 : Cond.code yX8_init cX8_init 2 none ∈ sm_tbl := sm_in (List.mem_append_right _ (List.mem_of_getElem? (i := 693) (by decide +kernel))) rfl
theorem wm_672 : Cond.methodLink RX8 1 Lib.objectInit ∈ sm_tbl := sm_in (List.mem_append_right _ (List.mem_of_getElem? (i := 694) (by decide +kernel))) rfl
theorem wm_673 : Cond.fieldLink RX8 7 RX8 "at" "[I" ∈ sm_tbl := sm_in (List.mem_append_right _ (List.mem_of_getElem? (i := 695) (by decide +kernel))) rfl
theorem wm_674 : Cond.fieldLink RX8 13 RX8 "past" "[I" ∈ sm_tbl := sm_in (List.mem_append_right _ (List.mem_of_getElem? (i := 696) (by decide +kernel))) rfl
theorem wm_675 : Cond.fieldLink RX8 86 RX8 "pastFirst" "I" ∈ sm_tbl := sm_in (List.mem_append_right _ (List.mem_of_getElem? (i := 697) (by decide +kernel))) rfl
theorem wm_676 : Cond.fieldLink RX8 82 RX8 "pastMany" "I" ∈ sm_tbl := sm_in (List.mem_append_right _ (List.mem_of_getElem? (i := 698) (by decide +kernel))) rfl
theorem wm_677 : Cond.fieldLink RX8 16 RX8 "slots" "[I" ∈ sm_tbl := sm_in (List.mem_append_right _ (List.mem_of_getElem? (i := 699) (by decide +kernel))) rfl
theorem wm_678 : Cond.fieldLink RX8 19 RX8 "isSaved" "[Z" ∈ sm_tbl := sm_in (List.mem_append_right _ (List.mem_of_getElem? (i := 700) (by decide +kernel))) rfl
theorem wm_679 : Cond.fieldLink RX8 23 RX8 "aside" "[I" ∈ sm_tbl := sm_in (List.mem_append_right _ (List.mem_of_getElem? (i := 701) (by decide +kernel))) rfl
theorem wm_680 : Cond.fieldLink RX8 26 RX8 "where" "[I" ∈ sm_tbl := sm_in (List.mem_append_right _ (List.mem_of_getElem? (i := 702) (by decide +kernel))) rfl
theorem wm_681 : Cond.fieldLink RX8 29 RX8 "place" "[I" ∈ sm_tbl := sm_in (List.mem_append_right _ (List.mem_of_getElem? (i := 703) (by decide +kernel))) rfl
theorem wm_682 : Cond.fieldLink RX8 32 RX8 "since" "[I" ∈ sm_tbl := sm_in (List.mem_append_right _ (List.mem_of_getElem? (i := 704) (by decide +kernel))) rfl
theorem wm_683 : Cond.fieldLink RX8 35 RX8 "comes" "[I" ∈ sm_tbl := sm_in (List.mem_append_right _ (List.mem_of_getElem? (i := 705) (by decide +kernel))) rfl
theorem wm_684 : Cond.fieldLink RX8 38 RX8 "readies" "[I" ∈ sm_tbl := sm_in (List.mem_append_right _ (List.mem_of_getElem? (i := 706) (by decide +kernel))) rfl
theorem wm_685 : Cond.fieldLink RX8 41 RX8 "leaves" "[I" ∈ sm_tbl := sm_in (List.mem_append_right _ (List.mem_of_getElem? (i := 707) (by decide +kernel))) rfl
theorem wm_686 : Cond.fieldLink RX8 44 RX8 "meets" "[I" ∈ sm_tbl := sm_in (List.mem_append_right _ (List.mem_of_getElem? (i := 708) (by decide +kernel))) rfl
theorem wm_687 : Cond.fieldLink RX8 47 RX8 "meetsAt" "[I" ∈ sm_tbl := sm_in (List.mem_append_right _ (List.mem_of_getElem? (i := 709) (by decide +kernel))) rfl
theorem wm_688 : Cond.fieldLink RX8 50 RX8 "blames" "[I" ∈ sm_tbl := sm_in (List.mem_append_right _ (List.mem_of_getElem? (i := 710) (by decide +kernel))) rfl
theorem wm_689 : Cond.fieldLink RX8 53 RX8 "waits" "[I" ∈ sm_tbl := sm_in (List.mem_append_right _ (List.mem_of_getElem? (i := 711) (by decide +kernel))) rfl
theorem wm_690 : Cond.fieldLink RX8 158 RX8 "last" "I" ∈ sm_tbl := sm_in (List.mem_append_right _ (List.mem_of_getElem? (i := 712) (by decide +kernel))) rfl
theorem wm_691 : Cond.fieldLink RX8 92 RX8 "stuck" "I" ∈ sm_tbl := sm_in (List.mem_append_right _ (List.mem_of_getElem? (i := 713) (by decide +kernel))) rfl
theorem wm_692 : Cond.fieldLink RX8 56 RX8 "ran" "[I" ∈ sm_tbl := sm_in (List.mem_append_right _ (List.mem_of_getElem? (i := 714) (by decide +kernel))) rfl
theorem wm_693 : Cond.fieldLink RX8 130 RX8 "hasRun" "Z" ∈ sm_tbl := sm_in (List.mem_append_right _ (List.mem_of_getElem? (i := 715) (by decide +kernel))) rfl
theorem wm_694 : Cond.fieldLink RX8 59 RX8 "order" "[I" ∈ sm_tbl := sm_in (List.mem_append_right _ (List.mem_of_getElem? (i := 716) (by decide +kernel))) rfl
theorem wm_695 : Cond.fieldLink RX8 62 RX8 "bestOne" "[I" ∈ sm_tbl := sm_in (List.mem_append_right _ (List.mem_of_getElem? (i := 717) (by decide +kernel))) rfl
theorem wm_696 : Cond.fieldLink RX8 65 RX8 "pad" "[I" ∈ sm_tbl := sm_in (List.mem_append_right _ (List.mem_of_getElem? (i := 718) (by decide +kernel))) rfl
theorem wm_697 : Cond.fieldLink RX8 220 RX8 "padMany" "I" ∈ sm_tbl := sm_in (List.mem_append_right _ (List.mem_of_getElem? (i := 719) (by decide +kernel))) rfl
theorem wm_698 : Cond.fieldLink RX8 270 RX8 "spot" "I" ∈ sm_tbl := sm_in (List.mem_append_right _ (List.mem_of_getElem? (i := 720) (by decide +kernel))) rfl
theorem wm_699 : Cond.fieldLink RX8 273 RX8 "isWrong" "Z" ∈ sm_tbl := sm_in (List.mem_append_right _ (List.mem_of_getElem? (i := 721) (by decide +kernel))) rfl
theorem wm_700 : Cond.fieldLink RX8 279 RX8 "read" "I" ∈ sm_tbl := sm_in (List.mem_append_right _ (List.mem_of_getElem? (i := 722) (by decide +kernel))) rfl
theorem wm_701 : Cond.fieldLink RX8 68 RX8 "sort" "[I" ∈ sm_tbl := sm_in (List.mem_append_right _ (List.mem_of_getElem? (i := 723) (by decide +kernel))) rfl
theorem wm_702 : Cond.fieldLink RX8 71 RX8 "numbers" "[I" ∈ sm_tbl := sm_in (List.mem_append_right _ (List.mem_of_getElem? (i := 724) (by decide +kernel))) rfl
theorem wm_703 : Cond.methodLink RL 17 yX8_first ∈ sm_tbl := sm_in (List.mem_append_right _ (List.mem_of_getElem? (i := 786) (by decide +kernel))) rfl
theorem wm_704 : Cond.instanceMethod yX8_first ∈ sm_tbl := sm_in (List.mem_append_right _ (List.mem_of_getElem? (i := 787) (by decide +kernel))) rfl
theorem wm_705 : Cond.selects RX8 yX8_first yX8_first ∈ sm_tbl := sm_in (List.mem_append_right _ (List.mem_of_getElem? (i := 788) (by decide +kernel))) rfl
theorem wm_706 : Cond.code yX8_first cX8_first 3 (some .int) ∈ sm_tbl := sm_in (List.mem_append_right _ (List.mem_of_getElem? (i := 789) (by decide +kernel))) rfl
theorem wm_708 : Cond.methodLink RX8 74 yX8_in ∈ sm_tbl := sm_in (List.mem_append_right _ (List.mem_of_getElem? (i := 790) (by decide +kernel))) rfl
theorem wm_709 : Cond.static yX8_in ∈ sm_tbl := sm_in (List.mem_append_right _ (List.mem_of_getElem? (i := 791) (by decide +kernel))) rfl
theorem wm_710 : Cond.code yX8_in cX8_in 3 (some .boolean) ∈ sm_tbl := sm_in (List.mem_append_right _ (List.mem_of_getElem? (i := 792) (by decide +kernel))) rfl
theorem wm_712 : Cond.methodLink RX8 89 yX8_keep ∈ sm_tbl := sm_in (List.mem_append_right _ (List.mem_of_getElem? (i := 793) (by decide +kernel))) rfl
theorem wm_713 : Cond.instanceMethod yX8_keep ∈ sm_tbl := sm_in (List.mem_append_right _ (List.mem_of_getElem? (i := 795) (by decide +kernel))) rfl
theorem wm_714 : Cond.code yX8_keep cX8_keep 3 none ∈ sm_tbl := sm_in (List.mem_append_right _ (List.mem_of_getElem? (i := 796) (by decide +kernel))) rfl
theorem wm_716 : Cond.methodLink RL 22 yX8_tracks ∈ sm_tbl := sm_in (List.mem_append_right _ (List.mem_of_getElem? (i := 797) (by decide +kernel))) rfl
theorem wm_717 : Cond.instanceMethod yX8_tracks ∈ sm_tbl := sm_in (List.mem_append_right _ (List.mem_of_getElem? (i := 798) (by decide +kernel))) rfl
theorem wm_718 : Cond.selects RX8 yX8_tracks yX8_tracks ∈ sm_tbl := sm_in (List.mem_append_right _ (List.mem_of_getElem? (i := 799) (by decide +kernel))) rfl
theorem wm_719 : Cond.code yX8_tracks cX8_tracks 3 (some .int) ∈ sm_tbl := sm_in (List.mem_append_right _ (List.mem_of_getElem? (i := 800) (by decide +kernel))) rfl
theorem wm_721 : Cond.methodLink RX8 185 yX8_tryTracks ∈ sm_tbl := sm_in (List.mem_append_right _ (List.mem_of_getElem? (i := 801) (by decide +kernel))) rfl
theorem wm_722 : Cond.instanceMethod yX8_tryTracks ∈ sm_tbl := sm_in (List.mem_append_right _ (List.mem_of_getElem? (i := 803) (by decide +kernel))) rfl
theorem wm_723 : Cond.code yX8_tryTracks cX8_tryTracks 4 (some .int) ∈ sm_tbl := sm_in (List.mem_append_right _ (List.mem_of_getElem? (i := 804) (by decide +kernel))) rfl
theorem wm_725 : Cond.methodLink RX8 178 yX8_isStation ∈ sm_tbl := sm_in (List.mem_append_right _ (List.mem_of_getElem? (i := 805) (by decide +kernel))) rfl
theorem wm_726 : Cond.static yX8_isStation ∈ sm_tbl := sm_in (List.mem_append_right _ (List.mem_of_getElem? (i := 806) (by decide +kernel))) rfl
theorem wm_727 : Cond.code yX8_isStation cX8_isStation 1 (some .boolean) ∈ sm_tbl := sm_in (List.mem_append_right _ (List.mem_of_getElem? (i := 807) (by decide +kernel))) rfl
theorem wm_729 : Cond.methodLink RX8 181 yX8_change ∈ sm_tbl := sm_in (List.mem_append_right _ (List.mem_of_getElem? (i := 808) (by decide +kernel))) rfl
theorem wm_730 : Cond.instanceMethod yX8_change ∈ sm_tbl := sm_in (List.mem_append_right _ (List.mem_of_getElem? (i := 810) (by decide +kernel))) rfl
theorem wm_731 : Cond.code yX8_change cX8_change 5 (some .int) ∈ sm_tbl := sm_in (List.mem_append_right _ (List.mem_of_getElem? (i := 811) (by decide +kernel))) rfl
theorem wm_733 : Cond.methodLink RX8 174 yX8_keepIf ∈ sm_tbl := sm_in (List.mem_append_right _ (List.mem_of_getElem? (i := 812) (by decide +kernel))) rfl
theorem wm_734 : Cond.instanceMethod yX8_keepIf ∈ sm_tbl := sm_in (List.mem_append_right _ (List.mem_of_getElem? (i := 814) (by decide +kernel))) rfl
theorem wm_735 : Cond.code yX8_keepIf cX8_keepIf 2 none ∈ sm_tbl := sm_in (List.mem_append_right _ (List.mem_of_getElem? (i := 815) (by decide +kernel))) rfl
theorem wm_737 : Cond.methodLink RL 26 yX8_running ∈ sm_tbl := sm_in (List.mem_append_right _ (List.mem_of_getElem? (i := 816) (by decide +kernel))) rfl
theorem wm_738 : Cond.instanceMethod yX8_running ∈ sm_tbl := sm_in (List.mem_append_right _ (List.mem_of_getElem? (i := 817) (by decide +kernel))) rfl
theorem wm_739 : Cond.selects RX8 yX8_running yX8_running ∈ sm_tbl := sm_in (List.mem_append_right _ (List.mem_of_getElem? (i := 818) (by decide +kernel))) rfl
theorem wm_740 : Cond.code yX8_running cX8_running 3 (some .int) ∈ sm_tbl := sm_in (List.mem_append_right _ (List.mem_of_getElem? (i := 819) (by decide +kernel))) rfl
theorem wm_742 : Cond.methodLink RX8 191 yX8_tryRunning ∈ sm_tbl := sm_in (List.mem_append_right _ (List.mem_of_getElem? (i := 820) (by decide +kernel))) rfl
theorem wm_743 : Cond.instanceMethod yX8_tryRunning ∈ sm_tbl := sm_in (List.mem_append_right _ (List.mem_of_getElem? (i := 822) (by decide +kernel))) rfl
theorem wm_744 : Cond.code yX8_tryRunning cX8_tryRunning 5 (some .int) ∈ sm_tbl := sm_in (List.mem_append_right _ (List.mem_of_getElem? (i := 823) (by decide +kernel))) rfl
theorem wm_746 : Cond.methodLink RX8 188 yX8_whyNotRun ∈ sm_tbl := sm_in (List.mem_append_right _ (List.mem_of_getElem? (i := 824) (by decide +kernel))) rfl
theorem wm_747 : Cond.static yX8_whyNotRun ∈ sm_tbl := sm_in (List.mem_append_right _ (List.mem_of_getElem? (i := 825) (by decide +kernel))) rfl
theorem wm_748 : Cond.code yX8_whyNotRun cX8_whyNotRun 2 (some .int) ∈ sm_tbl := sm_in (List.mem_append_right _ (List.mem_of_getElem? (i := 826) (by decide +kernel))) rfl
theorem wm_750 : Cond.methodLink RL 31 yX8_shuttle ∈ sm_tbl := sm_in (List.mem_append_right _ (List.mem_of_getElem? (i := 827) (by decide +kernel))) rfl
theorem wm_751 : Cond.instanceMethod yX8_shuttle ∈ sm_tbl := sm_in (List.mem_append_right _ (List.mem_of_getElem? (i := 828) (by decide +kernel))) rfl
theorem wm_752 : Cond.selects RX8 yX8_shuttle yX8_shuttle ∈ sm_tbl := sm_in (List.mem_append_right _ (List.mem_of_getElem? (i := 829) (by decide +kernel))) rfl
theorem wm_753 : Cond.code yX8_shuttle cX8_shuttle 6 (some .int) ∈ sm_tbl := sm_in (List.mem_append_right _ (List.mem_of_getElem? (i := 830) (by decide +kernel))) rfl
theorem wm_755 : Cond.methodLink RX8 194 yX8_tryShuttle ∈ sm_tbl := sm_in (List.mem_append_right _ (List.mem_of_getElem? (i := 831) (by decide +kernel))) rfl
theorem wm_756 : Cond.instanceMethod yX8_tryShuttle ∈ sm_tbl := sm_in (List.mem_append_right _ (List.mem_of_getElem? (i := 833) (by decide +kernel))) rfl
theorem wm_757 : Cond.code yX8_tryShuttle cX8_tryShuttle 8 (some .int) ∈ sm_tbl := sm_in (List.mem_append_right _ (List.mem_of_getElem? (i := 834) (by decide +kernel))) rfl
theorem wm_759 : Cond.methodLink RL 35 yX8_late ∈ sm_tbl := sm_in (List.mem_append_right _ (List.mem_of_getElem? (i := 835) (by decide +kernel))) rfl
theorem wm_760 : Cond.instanceMethod yX8_late ∈ sm_tbl := sm_in (List.mem_append_right _ (List.mem_of_getElem? (i := 836) (by decide +kernel))) rfl
theorem wm_761 : Cond.selects RX8 yX8_late yX8_late ∈ sm_tbl := sm_in (List.mem_append_right _ (List.mem_of_getElem? (i := 837) (by decide +kernel))) rfl
theorem wm_762 : Cond.code yX8_late cX8_late 3 (some .int) ∈ sm_tbl := sm_in (List.mem_append_right _ (List.mem_of_getElem? (i := 838) (by decide +kernel))) rfl
theorem wm_764 : Cond.methodLink RX8 204 yX8_tryLate ∈ sm_tbl := sm_in (List.mem_append_right _ (List.mem_of_getElem? (i := 839) (by decide +kernel))) rfl
theorem wm_765 : Cond.instanceMethod yX8_tryLate ∈ sm_tbl := sm_in (List.mem_append_right _ (List.mem_of_getElem? (i := 841) (by decide +kernel))) rfl
theorem wm_766 : Cond.code yX8_tryLate cX8_tryLate 5 (some .int) ∈ sm_tbl := sm_in (List.mem_append_right _ (List.mem_of_getElem? (i := 842) (by decide +kernel))) rfl
theorem wm_768 : Cond.methodLink RX8 201 yX8_whyNotLate ∈ sm_tbl := sm_in (List.mem_append_right _ (List.mem_of_getElem? (i := 843) (by decide +kernel))) rfl
theorem wm_769 : Cond.instanceMethod yX8_whyNotLate ∈ sm_tbl := sm_in (List.mem_append_right _ (List.mem_of_getElem? (i := 845) (by decide +kernel))) rfl
theorem wm_770 : Cond.code yX8_whyNotLate cX8_whyNotLate 3 (some .int) ∈ sm_tbl := sm_in (List.mem_append_right _ (List.mem_of_getElem? (i := 846) (by decide +kernel))) rfl
theorem wm_772 : Cond.methodLink RX8 198 yX8_isShuttle ∈ sm_tbl := sm_in (List.mem_append_right _ (List.mem_of_getElem? (i := 847) (by decide +kernel))) rfl
theorem wm_773 : Cond.instanceMethod yX8_isShuttle ∈ sm_tbl := sm_in (List.mem_append_right _ (List.mem_of_getElem? (i := 849) (by decide +kernel))) rfl
theorem wm_774 : Cond.code yX8_isShuttle cX8_isShuttle 2 (some .boolean) ∈ sm_tbl := sm_in (List.mem_append_right _ (List.mem_of_getElem? (i := 850) (by decide +kernel))) rfl
theorem wm_776 : Cond.methodLink RX8 78 yX8_of ∈ sm_tbl := sm_in (List.mem_append_right _ (List.mem_of_getElem? (i := 851) (by decide +kernel))) rfl
theorem wm_777 : Cond.instanceMethod yX8_of ∈ sm_tbl := sm_in (List.mem_append_right _ (List.mem_of_getElem? (i := 853) (by decide +kernel))) rfl
theorem wm_778 : Cond.code yX8_of cX8_of 3 (some .int) ∈ sm_tbl := sm_in (List.mem_append_right _ (List.mem_of_getElem? (i := 854) (by decide +kernel))) rfl
theorem wm_780 : Cond.methodLink RL 39 yX8_prefer ∈ sm_tbl := sm_in (List.mem_append_right _ (List.mem_of_getElem? (i := 855) (by decide +kernel))) rfl
theorem wm_781 : Cond.instanceMethod yX8_prefer ∈ sm_tbl := sm_in (List.mem_append_right _ (List.mem_of_getElem? (i := 856) (by decide +kernel))) rfl
theorem wm_782 : Cond.selects RX8 yX8_prefer yX8_prefer ∈ sm_tbl := sm_in (List.mem_append_right _ (List.mem_of_getElem? (i := 857) (by decide +kernel))) rfl
theorem wm_783 : Cond.code yX8_prefer cX8_prefer 3 (some .int) ∈ sm_tbl := sm_in (List.mem_append_right _ (List.mem_of_getElem? (i := 858) (by decide +kernel))) rfl
theorem wm_785 : Cond.methodLink RX8 207 yX8_tryPrefer ∈ sm_tbl := sm_in (List.mem_append_right _ (List.mem_of_getElem? (i := 859) (by decide +kernel))) rfl
theorem wm_786 : Cond.instanceMethod yX8_tryPrefer ∈ sm_tbl := sm_in (List.mem_append_right _ (List.mem_of_getElem? (i := 861) (by decide +kernel))) rfl
theorem wm_787 : Cond.code yX8_tryPrefer cX8_tryPrefer 4 (some .int) ∈ sm_tbl := sm_in (List.mem_append_right _ (List.mem_of_getElem? (i := 862) (by decide +kernel))) rfl
theorem wm_789 : Cond.methodLink RL 43 yX8_remove ∈ sm_tbl := sm_in (List.mem_append_right _ (List.mem_of_getElem? (i := 863) (by decide +kernel))) rfl
theorem wm_790 : Cond.instanceMethod yX8_remove ∈ sm_tbl := sm_in (List.mem_append_right _ (List.mem_of_getElem? (i := 864) (by decide +kernel))) rfl
theorem wm_791 : Cond.selects RX8 yX8_remove yX8_remove ∈ sm_tbl := sm_in (List.mem_append_right _ (List.mem_of_getElem? (i := 865) (by decide +kernel))) rfl
theorem wm_792 : Cond.code yX8_remove cX8_remove 2 (some .int) ∈ sm_tbl := sm_in (List.mem_append_right _ (List.mem_of_getElem? (i := 866) (by decide +kernel))) rfl
theorem wm_794 : Cond.methodLink RX8 210 yX8_tryRemove ∈ sm_tbl := sm_in (List.mem_append_right _ (List.mem_of_getElem? (i := 867) (by decide +kernel))) rfl
theorem wm_795 : Cond.instanceMethod yX8_tryRemove ∈ sm_tbl := sm_in (List.mem_append_right _ (List.mem_of_getElem? (i := 869) (by decide +kernel))) rfl
theorem wm_796 : Cond.code yX8_tryRemove cX8_tryRemove 4 (some .int) ∈ sm_tbl := sm_in (List.mem_append_right _ (List.mem_of_getElem? (i := 870) (by decide +kernel))) rfl
theorem wm_798 : Cond.methodLink RL 47 yX8_ofShuttle ∈ sm_tbl := sm_in (List.mem_append_right _ (List.mem_of_getElem? (i := 871) (by decide +kernel))) rfl
theorem wm_799 : Cond.instanceMethod yX8_ofShuttle ∈ sm_tbl := sm_in (List.mem_append_right _ (List.mem_of_getElem? (i := 872) (by decide +kernel))) rfl
theorem wm_800 : Cond.selects RX8 yX8_ofShuttle yX8_ofShuttle ∈ sm_tbl := sm_in (List.mem_append_right _ (List.mem_of_getElem? (i := 873) (by decide +kernel))) rfl
theorem wm_801 : Cond.code yX8_ofShuttle cX8_ofShuttle 3 (some .int) ∈ sm_tbl := sm_in (List.mem_append_right _ (List.mem_of_getElem? (i := 874) (by decide +kernel))) rfl
theorem wm_803 : Cond.methodLink RX8 167 yX8_run ∈ sm_tbl := sm_in (List.mem_append_right _ (List.mem_of_getElem? (i := 875) (by decide +kernel))) rfl
theorem wm_804 : Cond.instanceMethod yX8_run ∈ sm_tbl := sm_in (List.mem_append_right _ (List.mem_of_getElem? (i := 877) (by decide +kernel))) rfl
theorem wm_805 : Cond.code yX8_run cX8_run 3 none ∈ sm_tbl := sm_in (List.mem_append_right _ (List.mem_of_getElem? (i := 878) (by decide +kernel))) rfl
theorem wm_807 : Cond.methodLink RX8 134 yX8_isAsRun ∈ sm_tbl := sm_in (List.mem_append_right _ (List.mem_of_getElem? (i := 879) (by decide +kernel))) rfl
theorem wm_808 : Cond.instanceMethod yX8_isAsRun ∈ sm_tbl := sm_in (List.mem_append_right _ (List.mem_of_getElem? (i := 881) (by decide +kernel))) rfl
theorem wm_809 : Cond.code yX8_isAsRun cX8_isAsRun 3 (some .boolean) ∈ sm_tbl := sm_in (List.mem_append_right _ (List.mem_of_getElem? (i := 882) (by decide +kernel))) rfl
theorem wm_811 : Cond.methodLink RX8 138 yX8_beginDay ∈ sm_tbl := sm_in (List.mem_append_right _ (List.mem_of_getElem? (i := 883) (by decide +kernel))) rfl
theorem wm_812 : Cond.instanceMethod yX8_beginDay ∈ sm_tbl := sm_in (List.mem_append_right _ (List.mem_of_getElem? (i := 885) (by decide +kernel))) rfl
theorem wm_813 : Cond.code yX8_beginDay cX8_beginDay 2 none ∈ sm_tbl := sm_in (List.mem_append_right _ (List.mem_of_getElem? (i := 886) (by decide +kernel))) rfl
theorem wm_815 : Cond.methodLink RX8 141 yX8_come ∈ sm_tbl := sm_in (List.mem_append_right _ (List.mem_of_getElem? (i := 887) (by decide +kernel))) rfl
theorem wm_816 : Cond.instanceMethod yX8_come ∈ sm_tbl := sm_in (List.mem_append_right _ (List.mem_of_getElem? (i := 889) (by decide +kernel))) rfl
theorem wm_817 : Cond.code yX8_come cX8_come 4 none ∈ sm_tbl := sm_in (List.mem_append_right _ (List.mem_of_getElem? (i := 890) (by decide +kernel))) rfl
theorem wm_819 : Cond.methodLink RX8 95 yX8_way ∈ sm_tbl := sm_in (List.mem_append_right _ (List.mem_of_getElem? (i := 891) (by decide +kernel))) rfl
theorem wm_820 : Cond.instanceMethod yX8_way ∈ sm_tbl := sm_in (List.mem_append_right _ (List.mem_of_getElem? (i := 893) (by decide +kernel))) rfl
theorem wm_821 : Cond.code yX8_way cX8_way 2 (some .int) ∈ sm_tbl := sm_in (List.mem_append_right _ (List.mem_of_getElem? (i := 894) (by decide +kernel))) rfl
theorem wm_823 : Cond.methodLink RX8 145 yX8_meet ∈ sm_tbl := sm_in (List.mem_append_right _ (List.mem_of_getElem? (i := 895) (by decide +kernel))) rfl
theorem wm_824 : Cond.instanceMethod yX8_meet ∈ sm_tbl := sm_in (List.mem_append_right _ (List.mem_of_getElem? (i := 897) (by decide +kernel))) rfl
theorem wm_825 : Cond.code yX8_meet cX8_meet 5 none ∈ sm_tbl := sm_in (List.mem_append_right _ (List.mem_of_getElem? (i := 898) (by decide +kernel))) rfl
theorem wm_827 : Cond.methodLink RX8 148 yX8_leave ∈ sm_tbl := sm_in (List.mem_append_right _ (List.mem_of_getElem? (i := 899) (by decide +kernel))) rfl
theorem wm_828 : Cond.instanceMethod yX8_leave ∈ sm_tbl := sm_in (List.mem_append_right _ (List.mem_of_getElem? (i := 901) (by decide +kernel))) rfl
theorem wm_829 : Cond.code yX8_leave cX8_leave 3 none ∈ sm_tbl := sm_in (List.mem_append_right _ (List.mem_of_getElem? (i := 902) (by decide +kernel))) rfl
theorem wm_831 : Cond.methodLink RX8 124 yX8_nextToLeave ∈ sm_tbl := sm_in (List.mem_append_right _ (List.mem_of_getElem? (i := 903) (by decide +kernel))) rfl
theorem wm_832 : Cond.instanceMethod yX8_nextToLeave ∈ sm_tbl := sm_in (List.mem_append_right _ (List.mem_of_getElem? (i := 905) (by decide +kernel))) rfl
theorem wm_833 : Cond.code yX8_nextToLeave cX8_nextToLeave 4 (some .int) ∈ sm_tbl := sm_in (List.mem_append_right _ (List.mem_of_getElem? (i := 906) (by decide +kernel))) rfl
theorem wm_835 : Cond.methodLink RX8 118 yX8_canLeave ∈ sm_tbl := sm_in (List.mem_append_right _ (List.mem_of_getElem? (i := 907) (by decide +kernel))) rfl
theorem wm_836 : Cond.instanceMethod yX8_canLeave ∈ sm_tbl := sm_in (List.mem_append_right _ (List.mem_of_getElem? (i := 909) (by decide +kernel))) rfl
theorem wm_837 : Cond.code yX8_canLeave cX8_canLeave 4 (some .boolean) ∈ sm_tbl := sm_in (List.mem_append_right _ (List.mem_of_getElem? (i := 910) (by decide +kernel))) rfl
theorem wm_839 : Cond.methodLink RX8 102 yX8_isReady ∈ sm_tbl := sm_in (List.mem_append_right _ (List.mem_of_getElem? (i := 911) (by decide +kernel))) rfl
theorem wm_840 : Cond.instanceMethod yX8_isReady ∈ sm_tbl := sm_in (List.mem_append_right _ (List.mem_of_getElem? (i := 913) (by decide +kernel))) rfl
theorem wm_841 : Cond.code yX8_isReady cX8_isReady 3 (some .boolean) ∈ sm_tbl := sm_in (List.mem_append_right _ (List.mem_of_getElem? (i := 914) (by decide +kernel))) rfl
theorem wm_843 : Cond.methodLink RX8 99 yX8_readyAt ∈ sm_tbl := sm_in (List.mem_append_right _ (List.mem_of_getElem? (i := 915) (by decide +kernel))) rfl
theorem wm_844 : Cond.instanceMethod yX8_readyAt ∈ sm_tbl := sm_in (List.mem_append_right _ (List.mem_of_getElem? (i := 917) (by decide +kernel))) rfl
theorem wm_845 : Cond.code yX8_readyAt cX8_readyAt 2 (some .int) ∈ sm_tbl := sm_in (List.mem_append_right _ (List.mem_of_getElem? (i := 918) (by decide +kernel))) rfl
theorem wm_847 : Cond.methodLink RX8 106 yX8_stretchFrom ∈ sm_tbl := sm_in (List.mem_append_right _ (List.mem_of_getElem? (i := 919) (by decide +kernel))) rfl
theorem wm_848 : Cond.static yX8_stretchFrom ∈ sm_tbl := sm_in (List.mem_append_right _ (List.mem_of_getElem? (i := 920) (by decide +kernel))) rfl
theorem wm_849 : Cond.code yX8_stretchFrom cX8_stretchFrom 2 (some .int) ∈ sm_tbl := sm_in (List.mem_append_right _ (List.mem_of_getElem? (i := 921) (by decide +kernel))) rfl
theorem wm_851 : Cond.methodLink RX8 109 yX8_whoIsOn ∈ sm_tbl := sm_in (List.mem_append_right _ (List.mem_of_getElem? (i := 922) (by decide +kernel))) rfl
theorem wm_852 : Cond.instanceMethod yX8_whoIsOn ∈ sm_tbl := sm_in (List.mem_append_right _ (List.mem_of_getElem? (i := 924) (by decide +kernel))) rfl
theorem wm_853 : Cond.code yX8_whoIsOn cX8_whoIsOn 4 (some .int) ∈ sm_tbl := sm_in (List.mem_append_right _ (List.mem_of_getElem? (i := 925) (by decide +kernel))) rfl
theorem wm_855 : Cond.methodLink RX8 112 yX8_taken ∈ sm_tbl := sm_in (List.mem_append_right _ (List.mem_of_getElem? (i := 926) (by decide +kernel))) rfl
theorem wm_856 : Cond.instanceMethod yX8_taken ∈ sm_tbl := sm_in (List.mem_append_right _ (List.mem_of_getElem? (i := 928) (by decide +kernel))) rfl
theorem wm_857 : Cond.code yX8_taken cX8_taken 5 (some .int) ∈ sm_tbl := sm_in (List.mem_append_right _ (List.mem_of_getElem? (i := 929) (by decide +kernel))) rfl
theorem wm_859 : Cond.methodLink RX8 121 yX8_goesAhead ∈ sm_tbl := sm_in (List.mem_append_right _ (List.mem_of_getElem? (i := 930) (by decide +kernel))) rfl
theorem wm_860 : Cond.instanceMethod yX8_goesAhead ∈ sm_tbl := sm_in (List.mem_append_right _ (List.mem_of_getElem? (i := 932) (by decide +kernel))) rfl
theorem wm_861 : Cond.code yX8_goesAhead cX8_goesAhead 4 (some .boolean) ∈ sm_tbl := sm_in (List.mem_append_right _ (List.mem_of_getElem? (i := 933) (by decide +kernel))) rfl
theorem wm_863 : Cond.methodLink RX8 115 yX8_timeOf ∈ sm_tbl := sm_in (List.mem_append_right _ (List.mem_of_getElem? (i := 934) (by decide +kernel))) rfl
theorem wm_864 : Cond.instanceMethod yX8_timeOf ∈ sm_tbl := sm_in (List.mem_append_right _ (List.mem_of_getElem? (i := 936) (by decide +kernel))) rfl
theorem wm_865 : Cond.code yX8_timeOf cX8_timeOf 5 (some .int) ∈ sm_tbl := sm_in (List.mem_append_right _ (List.mem_of_getElem? (i := 937) (by decide +kernel))) rfl
theorem wm_867 : Cond.methodLink RX8 151 yX8_waitAll ∈ sm_tbl := sm_in (List.mem_append_right _ (List.mem_of_getElem? (i := 938) (by decide +kernel))) rfl
theorem wm_868 : Cond.instanceMethod yX8_waitAll ∈ sm_tbl := sm_in (List.mem_append_right _ (List.mem_of_getElem? (i := 940) (by decide +kernel))) rfl
theorem wm_869 : Cond.code yX8_waitAll cX8_waitAll 4 none ∈ sm_tbl := sm_in (List.mem_append_right _ (List.mem_of_getElem? (i := 941) (by decide +kernel))) rfl
theorem wm_871 : Cond.methodLink RX8 127 yX8_reason ∈ sm_tbl := sm_in (List.mem_append_right _ (List.mem_of_getElem? (i := 942) (by decide +kernel))) rfl
theorem wm_872 : Cond.instanceMethod yX8_reason ∈ sm_tbl := sm_in (List.mem_append_right _ (List.mem_of_getElem? (i := 944) (by decide +kernel))) rfl
theorem wm_873 : Cond.code yX8_reason cX8_reason 3 (some .int) ∈ sm_tbl := sm_in (List.mem_append_right _ (List.mem_of_getElem? (i := 945) (by decide +kernel))) rfl
theorem wm_875 : Cond.methodLink RX8 154 yX8_ends ∈ sm_tbl := sm_in (List.mem_append_right _ (List.mem_of_getElem? (i := 946) (by decide +kernel))) rfl
theorem wm_876 : Cond.instanceMethod yX8_ends ∈ sm_tbl := sm_in (List.mem_append_right _ (List.mem_of_getElem? (i := 948) (by decide +kernel))) rfl
theorem wm_877 : Cond.code yX8_ends cX8_ends 4 (some .boolean) ∈ sm_tbl := sm_in (List.mem_append_right _ (List.mem_of_getElem? (i := 949) (by decide +kernel))) rfl
theorem wm_879 : Cond.methodLink RX8 161 yX8_endOf ∈ sm_tbl := sm_in (List.mem_append_right _ (List.mem_of_getElem? (i := 950) (by decide +kernel))) rfl
theorem wm_880 : Cond.instanceMethod yX8_endOf ∈ sm_tbl := sm_in (List.mem_append_right _ (List.mem_of_getElem? (i := 952) (by decide +kernel))) rfl
theorem wm_881 : Cond.code yX8_endOf cX8_endOf 2 (some .int) ∈ sm_tbl := sm_in (List.mem_append_right _ (List.mem_of_getElem? (i := 953) (by decide +kernel))) rfl
theorem wm_883 : Cond.methodLink RX8 164 yX8_delayOf ∈ sm_tbl := sm_in (List.mem_append_right _ (List.mem_of_getElem? (i := 954) (by decide +kernel))) rfl
theorem wm_884 : Cond.instanceMethod yX8_delayOf ∈ sm_tbl := sm_in (List.mem_append_right _ (List.mem_of_getElem? (i := 956) (by decide +kernel))) rfl
theorem wm_885 : Cond.code yX8_delayOf cX8_delayOf 2 (some .int) ∈ sm_tbl := sm_in (List.mem_append_right _ (List.mem_of_getElem? (i := 957) (by decide +kernel))) rfl
theorem wm_887 : Cond.methodLink RX8 214 yX8_waited ∈ sm_tbl := sm_in (List.mem_append_right _ (List.mem_of_getElem? (i := 958) (by decide +kernel))) rfl
theorem wm_888 : Cond.instanceMethod yX8_waited ∈ sm_tbl := sm_in (List.mem_append_right _ (List.mem_of_getElem? (i := 960) (by decide +kernel))) rfl
theorem wm_889 : Cond.code yX8_waited cX8_waited 2 (some .int) ∈ sm_tbl := sm_in (List.mem_append_right _ (List.mem_of_getElem? (i := 961) (by decide +kernel))) rfl
theorem wm_891 : Cond.methodLink RX8 217 yX8_blamed ∈ sm_tbl := sm_in (List.mem_append_right _ (List.mem_of_getElem? (i := 962) (by decide +kernel))) rfl
theorem wm_892 : Cond.instanceMethod yX8_blamed ∈ sm_tbl := sm_in (List.mem_append_right _ (List.mem_of_getElem? (i := 964) (by decide +kernel))) rfl
theorem wm_893 : Cond.code yX8_blamed cX8_blamed 5 (some .int) ∈ sm_tbl := sm_in (List.mem_append_right _ (List.mem_of_getElem? (i := 965) (by decide +kernel))) rfl
theorem wm_895 : Cond.methodLink RL 51 yX8_count ∈ sm_tbl := sm_in (List.mem_append_right _ (List.mem_of_getElem? (i := 966) (by decide +kernel))) rfl
theorem wm_896 : Cond.instanceMethod yX8_count ∈ sm_tbl := sm_in (List.mem_append_right _ (List.mem_of_getElem? (i := 967) (by decide +kernel))) rfl
theorem wm_897 : Cond.selects RX8 yX8_count yX8_count ∈ sm_tbl := sm_in (List.mem_append_right _ (List.mem_of_getElem? (i := 968) (by decide +kernel))) rfl
theorem wm_898 : Cond.code yX8_count cX8_count 2 (some .int) ∈ sm_tbl := sm_in (List.mem_append_right _ (List.mem_of_getElem? (i := 969) (by decide +kernel))) rfl
theorem wm_900 : Cond.methodLink RL 55 yX8_day ∈ sm_tbl := sm_in (List.mem_append_right _ (List.mem_of_getElem? (i := 970) (by decide +kernel))) rfl
theorem wm_901 : Cond.instanceMethod yX8_day ∈ sm_tbl := sm_in (List.mem_append_right _ (List.mem_of_getElem? (i := 971) (by decide +kernel))) rfl
theorem wm_902 : Cond.selects RX8 yX8_day yX8_day ∈ sm_tbl := sm_in (List.mem_append_right _ (List.mem_of_getElem? (i := 972) (by decide +kernel))) rfl
theorem wm_903 : Cond.code yX8_day cX8_day 2 (some .int) ∈ sm_tbl := sm_in (List.mem_append_right _ (List.mem_of_getElem? (i := 973) (by decide +kernel))) rfl
theorem wm_905 : Cond.methodLink RX8 170 yX8_delay ∈ sm_tbl := sm_in (List.mem_append_right _ (List.mem_of_getElem? (i := 974) (by decide +kernel))) rfl
theorem wm_906 : Cond.instanceMethod yX8_delay ∈ sm_tbl := sm_in (List.mem_append_right _ (List.mem_of_getElem? (i := 976) (by decide +kernel))) rfl
theorem wm_907 : Cond.code yX8_delay cX8_delay 3 (some .int) ∈ sm_tbl := sm_in (List.mem_append_right _ (List.mem_of_getElem? (i := 977) (by decide +kernel))) rfl
theorem wm_909 : Cond.methodLink RX8 223 yX8_meetings ∈ sm_tbl := sm_in (List.mem_append_right _ (List.mem_of_getElem? (i := 978) (by decide +kernel))) rfl
theorem wm_910 : Cond.instanceMethod yX8_meetings ∈ sm_tbl := sm_in (List.mem_append_right _ (List.mem_of_getElem? (i := 980) (by decide +kernel))) rfl
theorem wm_911 : Cond.code yX8_meetings cX8_meetings 3 (some .int) ∈ sm_tbl := sm_in (List.mem_append_right _ (List.mem_of_getElem? (i := 981) (by decide +kernel))) rfl
theorem wm_913 : Cond.methodLink RX8 226 yX8_allWaits ∈ sm_tbl := sm_in (List.mem_append_right _ (List.mem_of_getElem? (i := 982) (by decide +kernel))) rfl
theorem wm_914 : Cond.instanceMethod yX8_allWaits ∈ sm_tbl := sm_in (List.mem_append_right _ (List.mem_of_getElem? (i := 984) (by decide +kernel))) rfl
theorem wm_915 : Cond.code yX8_allWaits cX8_allWaits 3 (some .int) ∈ sm_tbl := sm_in (List.mem_append_right _ (List.mem_of_getElem? (i := 985) (by decide +kernel))) rfl
theorem wm_917 : Cond.methodLink RX8 229 yX8_greatestDelay ∈ sm_tbl := sm_in (List.mem_append_right _ (List.mem_of_getElem? (i := 986) (by decide +kernel))) rfl
theorem wm_918 : Cond.instanceMethod yX8_greatestDelay ∈ sm_tbl := sm_in (List.mem_append_right _ (List.mem_of_getElem? (i := 988) (by decide +kernel))) rfl
theorem wm_919 : Cond.code yX8_greatestDelay cX8_greatestDelay 3 (some .int) ∈ sm_tbl := sm_in (List.mem_append_right _ (List.mem_of_getElem? (i := 989) (by decide +kernel))) rfl
theorem wm_921 : Cond.methodLink RL 59 yX8_at ∈ sm_tbl := sm_in (List.mem_append_right _ (List.mem_of_getElem? (i := 990) (by decide +kernel))) rfl
theorem wm_922 : Cond.instanceMethod yX8_at ∈ sm_tbl := sm_in (List.mem_append_right _ (List.mem_of_getElem? (i := 991) (by decide +kernel))) rfl
theorem wm_923 : Cond.selects RX8 yX8_at yX8_at ∈ sm_tbl := sm_in (List.mem_append_right _ (List.mem_of_getElem? (i := 992) (by decide +kernel))) rfl
theorem wm_924 : Cond.code yX8_at cX8_at 3 (some .int) ∈ sm_tbl := sm_in (List.mem_append_right _ (List.mem_of_getElem? (i := 993) (by decide +kernel))) rfl
theorem wm_926 : Cond.methodLink RX8 238 yX8_placeIn ∈ sm_tbl := sm_in (List.mem_append_right _ (List.mem_of_getElem? (i := 994) (by decide +kernel))) rfl
theorem wm_927 : Cond.instanceMethod yX8_placeIn ∈ sm_tbl := sm_in (List.mem_append_right _ (List.mem_of_getElem? (i := 996) (by decide +kernel))) rfl
theorem wm_928 : Cond.code yX8_placeIn cX8_placeIn 4 (some .int) ∈ sm_tbl := sm_in (List.mem_append_right _ (List.mem_of_getElem? (i := 997) (by decide +kernel))) rfl
theorem wm_930 : Cond.methodLink RX8 232 yX8_stationIn ∈ sm_tbl := sm_in (List.mem_append_right _ (List.mem_of_getElem? (i := 998) (by decide +kernel))) rfl
theorem wm_931 : Cond.instanceMethod yX8_stationIn ∈ sm_tbl := sm_in (List.mem_append_right _ (List.mem_of_getElem? (i := 1000) (by decide +kernel))) rfl
theorem wm_932 : Cond.code yX8_stationIn cX8_stationIn 4 (some .int) ∈ sm_tbl := sm_in (List.mem_append_right _ (List.mem_of_getElem? (i := 1001) (by decide +kernel))) rfl
theorem wm_934 : Cond.methodLink RX8 235 yX8_hasLeft ∈ sm_tbl := sm_in (List.mem_append_right _ (List.mem_of_getElem? (i := 1002) (by decide +kernel))) rfl
theorem wm_935 : Cond.instanceMethod yX8_hasLeft ∈ sm_tbl := sm_in (List.mem_append_right _ (List.mem_of_getElem? (i := 1004) (by decide +kernel))) rfl
theorem wm_936 : Cond.code yX8_hasLeft cX8_hasLeft 4 (some .boolean) ∈ sm_tbl := sm_in (List.mem_append_right _ (List.mem_of_getElem? (i := 1005) (by decide +kernel))) rfl
theorem wm_938 : Cond.methodLink RL 64 yX8_when ∈ sm_tbl := sm_in (List.mem_append_right _ (List.mem_of_getElem? (i := 1006) (by decide +kernel))) rfl
theorem wm_939 : Cond.instanceMethod yX8_when ∈ sm_tbl := sm_in (List.mem_append_right _ (List.mem_of_getElem? (i := 1007) (by decide +kernel))) rfl
theorem wm_940 : Cond.selects RX8 yX8_when yX8_when ∈ sm_tbl := sm_in (List.mem_append_right _ (List.mem_of_getElem? (i := 1008) (by decide +kernel))) rfl
theorem wm_941 : Cond.code yX8_when cX8_when 4 (some .int) ∈ sm_tbl := sm_in (List.mem_append_right _ (List.mem_of_getElem? (i := 1009) (by decide +kernel))) rfl
theorem wm_943 : Cond.methodLink RL 68 yX8_why ∈ sm_tbl := sm_in (List.mem_append_right _ (List.mem_of_getElem? (i := 1010) (by decide +kernel))) rfl
theorem wm_944 : Cond.instanceMethod yX8_why ∈ sm_tbl := sm_in (List.mem_append_right _ (List.mem_of_getElem? (i := 1011) (by decide +kernel))) rfl
theorem wm_945 : Cond.selects RX8 yX8_why yX8_why ∈ sm_tbl := sm_in (List.mem_append_right _ (List.mem_of_getElem? (i := 1012) (by decide +kernel))) rfl
theorem wm_946 : Cond.code yX8_why cX8_why 3 (some .int) ∈ sm_tbl := sm_in (List.mem_append_right _ (List.mem_of_getElem? (i := 1013) (by decide +kernel))) rfl
theorem wm_948 : Cond.methodLink RX8 241 yX8_reasonIn ∈ sm_tbl := sm_in (List.mem_append_right _ (List.mem_of_getElem? (i := 1014) (by decide +kernel))) rfl
theorem wm_949 : Cond.instanceMethod yX8_reasonIn ∈ sm_tbl := sm_in (List.mem_append_right _ (List.mem_of_getElem? (i := 1016) (by decide +kernel))) rfl
theorem wm_950 : Cond.code yX8_reasonIn cX8_reasonIn 7 (some .int) ∈ sm_tbl := sm_in (List.mem_append_right _ (List.mem_of_getElem? (i := 1017) (by decide +kernel))) rfl
theorem wm_952 : Cond.methodLink RL 72 yX8_meeting ∈ sm_tbl := sm_in (List.mem_append_right _ (List.mem_of_getElem? (i := 1018) (by decide +kernel))) rfl
theorem wm_953 : Cond.instanceMethod yX8_meeting ∈ sm_tbl := sm_in (List.mem_append_right _ (List.mem_of_getElem? (i := 1019) (by decide +kernel))) rfl
theorem wm_954 : Cond.selects RX8 yX8_meeting yX8_meeting ∈ sm_tbl := sm_in (List.mem_append_right _ (List.mem_of_getElem? (i := 1020) (by decide +kernel))) rfl
theorem wm_955 : Cond.code yX8_meeting cX8_meeting 4 (some .int) ∈ sm_tbl := sm_in (List.mem_append_right _ (List.mem_of_getElem? (i := 1021) (by decide +kernel))) rfl
theorem wm_957 : Cond.methodLink RX8 247 yX8_ahead ∈ sm_tbl := sm_in (List.mem_append_right _ (List.mem_of_getElem? (i := 1022) (by decide +kernel))) rfl
theorem wm_958 : Cond.instanceMethod yX8_ahead ∈ sm_tbl := sm_in (List.mem_append_right _ (List.mem_of_getElem? (i := 1024) (by decide +kernel))) rfl
theorem wm_959 : Cond.code yX8_ahead cX8_ahead 4 (some .int) ∈ sm_tbl := sm_in (List.mem_append_right _ (List.mem_of_getElem? (i := 1025) (by decide +kernel))) rfl
theorem wm_961 : Cond.methodLink RX8 244 yX8_isAhead ∈ sm_tbl := sm_in (List.mem_append_right _ (List.mem_of_getElem? (i := 1026) (by decide +kernel))) rfl
theorem wm_962 : Cond.instanceMethod yX8_isAhead ∈ sm_tbl := sm_in (List.mem_append_right _ (List.mem_of_getElem? (i := 1028) (by decide +kernel))) rfl
theorem wm_963 : Cond.code yX8_isAhead cX8_isAhead 3 (some .boolean) ∈ sm_tbl := sm_in (List.mem_append_right _ (List.mem_of_getElem? (i := 1029) (by decide +kernel))) rfl
theorem wm_965 : Cond.methodLink RL 76 yX8_delayIfLate ∈ sm_tbl := sm_in (List.mem_append_right _ (List.mem_of_getElem? (i := 1030) (by decide +kernel))) rfl
theorem wm_966 : Cond.instanceMethod yX8_delayIfLate ∈ sm_tbl := sm_in (List.mem_append_right _ (List.mem_of_getElem? (i := 1031) (by decide +kernel))) rfl
theorem wm_967 : Cond.selects RX8 yX8_delayIfLate yX8_delayIfLate ∈ sm_tbl := sm_in (List.mem_append_right _ (List.mem_of_getElem? (i := 1032) (by decide +kernel))) rfl
theorem wm_968 : Cond.code yX8_delayIfLate cX8_delayIfLate 5 (some .int) ∈ sm_tbl := sm_in (List.mem_append_right _ (List.mem_of_getElem? (i := 1033) (by decide +kernel))) rfl
theorem wm_970 : Cond.methodLink RX8 250 yX8_layAside ∈ sm_tbl := sm_in (List.mem_append_right _ (List.mem_of_getElem? (i := 1034) (by decide +kernel))) rfl
theorem wm_971 : Cond.instanceMethod yX8_layAside ∈ sm_tbl := sm_in (List.mem_append_right _ (List.mem_of_getElem? (i := 1036) (by decide +kernel))) rfl
theorem wm_972 : Cond.code yX8_layAside cX8_layAside 2 none ∈ sm_tbl := sm_in (List.mem_append_right _ (List.mem_of_getElem? (i := 1037) (by decide +kernel))) rfl
theorem wm_974 : Cond.methodLink RX8 253 yX8_delayNow ∈ sm_tbl := sm_in (List.mem_append_right _ (List.mem_of_getElem? (i := 1038) (by decide +kernel))) rfl
theorem wm_975 : Cond.instanceMethod yX8_delayNow ∈ sm_tbl := sm_in (List.mem_append_right _ (List.mem_of_getElem? (i := 1040) (by decide +kernel))) rfl
theorem wm_976 : Cond.code yX8_delayNow cX8_delayNow 1 (some .int) ∈ sm_tbl := sm_in (List.mem_append_right _ (List.mem_of_getElem? (i := 1041) (by decide +kernel))) rfl
theorem wm_978 : Cond.methodLink RX8 256 yX8_layBack ∈ sm_tbl := sm_in (List.mem_append_right _ (List.mem_of_getElem? (i := 1042) (by decide +kernel))) rfl
theorem wm_979 : Cond.instanceMethod yX8_layBack ∈ sm_tbl := sm_in (List.mem_append_right _ (List.mem_of_getElem? (i := 1044) (by decide +kernel))) rfl
theorem wm_980 : Cond.code yX8_layBack cX8_layBack 2 none ∈ sm_tbl := sm_in (List.mem_append_right _ (List.mem_of_getElem? (i := 1045) (by decide +kernel))) rfl
theorem wm_982 : Cond.methodLink RL 80 yX8_delayIfSlow ∈ sm_tbl := sm_in (List.mem_append_right _ (List.mem_of_getElem? (i := 1046) (by decide +kernel))) rfl
theorem wm_983 : Cond.instanceMethod yX8_delayIfSlow ∈ sm_tbl := sm_in (List.mem_append_right _ (List.mem_of_getElem? (i := 1047) (by decide +kernel))) rfl
theorem wm_984 : Cond.selects RX8 yX8_delayIfSlow yX8_delayIfSlow ∈ sm_tbl := sm_in (List.mem_append_right _ (List.mem_of_getElem? (i := 1048) (by decide +kernel))) rfl
theorem wm_985 : Cond.code yX8_delayIfSlow cX8_delayIfSlow 5 (some .int) ∈ sm_tbl := sm_in (List.mem_append_right _ (List.mem_of_getElem? (i := 1049) (by decide +kernel))) rfl
theorem wm_987 : Cond.methodLink RL 84 yX8_bestTrack ∈ sm_tbl := sm_in (List.mem_append_right _ (List.mem_of_getElem? (i := 1050) (by decide +kernel))) rfl
theorem wm_988 : Cond.instanceMethod yX8_bestTrack ∈ sm_tbl := sm_in (List.mem_append_right _ (List.mem_of_getElem? (i := 1051) (by decide +kernel))) rfl
theorem wm_989 : Cond.selects RX8 yX8_bestTrack yX8_bestTrack ∈ sm_tbl := sm_in (List.mem_append_right _ (List.mem_of_getElem? (i := 1052) (by decide +kernel))) rfl
theorem wm_990 : Cond.code yX8_bestTrack cX8_bestTrack 6 (some .int) ∈ sm_tbl := sm_in (List.mem_append_right _ (List.mem_of_getElem? (i := 1053) (by decide +kernel))) rfl
theorem wm_992 : Cond.methodLink RL 88 yX8_bestOrder ∈ sm_tbl := sm_in (List.mem_append_right _ (List.mem_of_getElem? (i := 1054) (by decide +kernel))) rfl
theorem wm_993 : Cond.instanceMethod yX8_bestOrder ∈ sm_tbl := sm_in (List.mem_append_right _ (List.mem_of_getElem? (i := 1055) (by decide +kernel))) rfl
theorem wm_994 : Cond.selects RX8 yX8_bestOrder yX8_bestOrder ∈ sm_tbl := sm_in (List.mem_append_right _ (List.mem_of_getElem? (i := 1056) (by decide +kernel))) rfl
theorem wm_995 : Cond.code yX8_bestOrder cX8_bestOrder 6 (some .int) ∈ sm_tbl := sm_in (List.mem_append_right _ (List.mem_of_getElem? (i := 1057) (by decide +kernel))) rfl
theorem wm_997 : Cond.methodLink RX8 259 yX8_orders ∈ sm_tbl := sm_in (List.mem_append_right _ (List.mem_of_getElem? (i := 1058) (by decide +kernel))) rfl
theorem wm_998 : Cond.instanceMethod yX8_orders ∈ sm_tbl := sm_in (List.mem_append_right _ (List.mem_of_getElem? (i := 1060) (by decide +kernel))) rfl
theorem wm_999 : Cond.code yX8_orders cX8_orders 3 (some .int) ∈ sm_tbl := sm_in (List.mem_append_right _ (List.mem_of_getElem? (i := 1061) (by decide +kernel))) rfl
theorem wm_1001 : Cond.methodLink RX8 262 yX8_layOrder ∈ sm_tbl := sm_in (List.mem_append_right _ (List.mem_of_getElem? (i := 1062) (by decide +kernel))) rfl
theorem wm_1002 : Cond.instanceMethod yX8_layOrder ∈ sm_tbl := sm_in (List.mem_append_right _ (List.mem_of_getElem? (i := 1064) (by decide +kernel))) rfl
theorem wm_1003 : Cond.code yX8_layOrder cX8_layOrder 6 (some .boolean) ∈ sm_tbl := sm_in (List.mem_append_right _ (List.mem_of_getElem? (i := 1065) (by decide +kernel))) rfl
theorem wm_1005 : Cond.methodLink RX8 265 yX8_delayInOrder ∈ sm_tbl := sm_in (List.mem_append_right _ (List.mem_of_getElem? (i := 1066) (by decide +kernel))) rfl
theorem wm_1006 : Cond.instanceMethod yX8_delayInOrder ∈ sm_tbl := sm_in (List.mem_append_right _ (List.mem_of_getElem? (i := 1068) (by decide +kernel))) rfl
theorem wm_1007 : Cond.code yX8_delayInOrder cX8_delayInOrder 2 (some .int) ∈ sm_tbl := sm_in (List.mem_append_right _ (List.mem_of_getElem? (i := 1069) (by decide +kernel))) rfl
theorem wm_1009 : Cond.methodLink RL 95 yX8_put ∈ sm_tbl := sm_in (List.mem_append_right _ (List.mem_of_getElem? (i := 1070) (by decide +kernel))) rfl
theorem wm_1010 : Cond.instanceMethod yX8_put ∈ sm_tbl := sm_in (List.mem_append_right _ (List.mem_of_getElem? (i := 1071) (by decide +kernel))) rfl
theorem wm_1011 : Cond.selects RX8 yX8_put yX8_put ∈ sm_tbl := sm_in (List.mem_append_right _ (List.mem_of_getElem? (i := 1072) (by decide +kernel))) rfl
theorem wm_1012 : Cond.code yX8_put cX8_put 7 (some .int) ∈ sm_tbl := sm_in (List.mem_append_right _ (List.mem_of_getElem? (i := 1073) (by decide +kernel))) rfl
theorem wm_1014 : Cond.constantLong RX8 268 255 ∈ sm_tbl := sm_in (List.mem_append_right _ (List.mem_of_getElem? (i := 1074) (by decide +kernel))) rfl
theorem wm_1016 : Cond.methodLink RL 100 yX8_wipe ∈ sm_tbl := sm_in (List.mem_append_right _ (List.mem_of_getElem? (i := 1075) (by decide +kernel))) rfl
theorem wm_1017 : Cond.instanceMethod yX8_wipe ∈ sm_tbl := sm_in (List.mem_append_right _ (List.mem_of_getElem? (i := 1076) (by decide +kernel))) rfl
theorem wm_1018 : Cond.selects RX8 yX8_wipe yX8_wipe ∈ sm_tbl := sm_in (List.mem_append_right _ (List.mem_of_getElem? (i := 1077) (by decide +kernel))) rfl
theorem wm_1019 : Cond.code yX8_wipe cX8_wipe 2 (some .int) ∈ sm_tbl := sm_in (List.mem_append_right _ (List.mem_of_getElem? (i := 1078) (by decide +kernel))) rfl
theorem wm_1021 : Cond.methodLink RL 104 yX8_fault ∈ sm_tbl := sm_in (List.mem_append_right _ (List.mem_of_getElem? (i := 1079) (by decide +kernel))) rfl
theorem wm_1022 : Cond.instanceMethod yX8_fault ∈ sm_tbl := sm_in (List.mem_append_right _ (List.mem_of_getElem? (i := 1080) (by decide +kernel))) rfl
theorem wm_1023 : Cond.selects RX8 yX8_fault yX8_fault ∈ sm_tbl := sm_in (List.mem_append_right _ (List.mem_of_getElem? (i := 1081) (by decide +kernel))) rfl
theorem wm_1024 : Cond.code yX8_fault cX8_fault 1 (some .int) ∈ sm_tbl := sm_in (List.mem_append_right _ (List.mem_of_getElem? (i := 1082) (by decide +kernel))) rfl
theorem wm_1026 : Cond.methodLink RX8 295 yX8_takeOrder ∈ sm_tbl := sm_in (List.mem_append_right _ (List.mem_of_getElem? (i := 1083) (by decide +kernel))) rfl
theorem wm_1027 : Cond.instanceMethod yX8_takeOrder ∈ sm_tbl := sm_in (List.mem_append_right _ (List.mem_of_getElem? (i := 1085) (by decide +kernel))) rfl
theorem wm_1028 : Cond.code yX8_takeOrder cX8_takeOrder 2 none ∈ sm_tbl := sm_in (List.mem_append_right _ (List.mem_of_getElem? (i := 1086) (by decide +kernel))) rfl
theorem wm_1030 : Cond.methodLink RX8 276 yX8_next ∈ sm_tbl := sm_in (List.mem_append_right _ (List.mem_of_getElem? (i := 1087) (by decide +kernel))) rfl
theorem wm_1031 : Cond.instanceMethod yX8_next ∈ sm_tbl := sm_in (List.mem_append_right _ (List.mem_of_getElem? (i := 1089) (by decide +kernel))) rfl
theorem wm_1032 : Cond.code yX8_next cX8_next 1 (some .int) ∈ sm_tbl := sm_in (List.mem_append_right _ (List.mem_of_getElem? (i := 1090) (by decide +kernel))) rfl
theorem wm_1034 : Cond.methodLink RX8 292 yX8_takeShuttle ∈ sm_tbl := sm_in (List.mem_append_right _ (List.mem_of_getElem? (i := 1091) (by decide +kernel))) rfl
theorem wm_1035 : Cond.instanceMethod yX8_takeShuttle ∈ sm_tbl := sm_in (List.mem_append_right _ (List.mem_of_getElem? (i := 1093) (by decide +kernel))) rfl
theorem wm_1036 : Cond.code yX8_takeShuttle cX8_takeShuttle 1 none ∈ sm_tbl := sm_in (List.mem_append_right _ (List.mem_of_getElem? (i := 1094) (by decide +kernel))) rfl
theorem wm_1038 : Cond.methodLink RX8 282 yX8_takeOne ∈ sm_tbl := sm_in (List.mem_append_right _ (List.mem_of_getElem? (i := 1095) (by decide +kernel))) rfl
theorem wm_1039 : Cond.instanceMethod yX8_takeOne ∈ sm_tbl := sm_in (List.mem_append_right _ (List.mem_of_getElem? (i := 1097) (by decide +kernel))) rfl
theorem wm_1040 : Cond.code yX8_takeOne cX8_takeOne 3 none ∈ sm_tbl := sm_in (List.mem_append_right _ (List.mem_of_getElem? (i := 1098) (by decide +kernel))) rfl
theorem wm_1042 : Cond.methodLink RX8 286 yX8_takeSign ∈ sm_tbl := sm_in (List.mem_append_right _ (List.mem_of_getElem? (i := 1099) (by decide +kernel))) rfl
theorem wm_1043 : Cond.instanceMethod yX8_takeSign ∈ sm_tbl := sm_in (List.mem_append_right _ (List.mem_of_getElem? (i := 1101) (by decide +kernel))) rfl
theorem wm_1044 : Cond.code yX8_takeSign cX8_takeSign 2 none ∈ sm_tbl := sm_in (List.mem_append_right _ (List.mem_of_getElem? (i := 1102) (by decide +kernel))) rfl
theorem wm_1046 : Cond.methodLink RX8 289 yX8_takeNumber ∈ sm_tbl := sm_in (List.mem_append_right _ (List.mem_of_getElem? (i := 1103) (by decide +kernel))) rfl
theorem wm_1047 : Cond.instanceMethod yX8_takeNumber ∈ sm_tbl := sm_in (List.mem_append_right _ (List.mem_of_getElem? (i := 1105) (by decide +kernel))) rfl
theorem wm_1048 : Cond.code yX8_takeNumber cX8_takeNumber 3 none ∈ sm_tbl := sm_in (List.mem_append_right _ (List.mem_of_getElem? (i := 1106) (by decide +kernel))) rfl
theorem wm_1050 : Cond.methodLink RL 108 yX8_carryOut ∈ sm_tbl := sm_in (List.mem_append_right _ (List.mem_of_getElem? (i := 1107) (by decide +kernel))) rfl
theorem wm_1051 : Cond.instanceMethod yX8_carryOut ∈ sm_tbl := sm_in (List.mem_append_right _ (List.mem_of_getElem? (i := 1108) (by decide +kernel))) rfl
theorem wm_1052 : Cond.selects RX8 yX8_carryOut yX8_carryOut ∈ sm_tbl := sm_in (List.mem_append_right _ (List.mem_of_getElem? (i := 1109) (by decide +kernel))) rfl
theorem wm_1053 : Cond.code yX8_carryOut cX8_carryOut 2 (some .int) ∈ sm_tbl := sm_in (List.mem_append_right _ (List.mem_of_getElem? (i := 1110) (by decide +kernel))) rfl
theorem wm_1055 : Cond.methodLink RX8 298 yX8_fault ∈ sm_tbl := sm_in (List.mem_append_right _ (List.mem_of_getElem? (i := 1111) (by decide +kernel))) rfl
theorem wm_1056 : Cond.methodLink RX8 301 yX8_carry ∈ sm_tbl := sm_in (List.mem_append_right _ (List.mem_of_getElem? (i := 1112) (by decide +kernel))) rfl
theorem wm_1057 : Cond.instanceMethod yX8_carry ∈ sm_tbl := sm_in (List.mem_append_right _ (List.mem_of_getElem? (i := 1114) (by decide +kernel))) rfl
theorem wm_1058 : Cond.code yX8_carry cX8_carry 3 (some .int) ∈ sm_tbl := sm_in (List.mem_append_right _ (List.mem_of_getElem? (i := 1115) (by decide +kernel))) rfl
theorem wm_1060 : Cond.methodLink RL 112 yX8_undo ∈ sm_tbl := sm_in (List.mem_append_right _ (List.mem_of_getElem? (i := 1116) (by decide +kernel))) rfl
theorem wm_1061 : Cond.instanceMethod yX8_undo ∈ sm_tbl := sm_in (List.mem_append_right _ (List.mem_of_getElem? (i := 1117) (by decide +kernel))) rfl
theorem wm_1062 : Cond.selects RX8 yX8_undo yX8_undo ∈ sm_tbl := sm_in (List.mem_append_right _ (List.mem_of_getElem? (i := 1118) (by decide +kernel))) rfl
theorem wm_1063 : Cond.code yX8_undo cX8_undo 3 (some .int) ∈ sm_tbl := sm_in (List.mem_append_right _ (List.mem_of_getElem? (i := 1119) (by decide +kernel))) rfl
theorem wm_1065 : Cond.methodLink RL 116 yX8_save ∈ sm_tbl := sm_in (List.mem_append_right _ (List.mem_of_getElem? (i := 1120) (by decide +kernel))) rfl
theorem wm_1066 : Cond.instanceMethod yX8_save ∈ sm_tbl := sm_in (List.mem_append_right _ (List.mem_of_getElem? (i := 1121) (by decide +kernel))) rfl
theorem wm_1067 : Cond.selects RX8 yX8_save yX8_save ∈ sm_tbl := sm_in (List.mem_append_right _ (List.mem_of_getElem? (i := 1122) (by decide +kernel))) rfl
theorem wm_1068 : Cond.code yX8_save cX8_save 3 (some .int) ∈ sm_tbl := sm_in (List.mem_append_right _ (List.mem_of_getElem? (i := 1123) (by decide +kernel))) rfl
theorem wm_1070 : Cond.methodLink RL 120 yX8_restore ∈ sm_tbl := sm_in (List.mem_append_right _ (List.mem_of_getElem? (i := 1124) (by decide +kernel))) rfl
theorem wm_1071 : Cond.instanceMethod yX8_restore ∈ sm_tbl := sm_in (List.mem_append_right _ (List.mem_of_getElem? (i := 1125) (by decide +kernel))) rfl
theorem wm_1072 : Cond.selects RX8 yX8_restore yX8_restore ∈ sm_tbl := sm_in (List.mem_append_right _ (List.mem_of_getElem? (i := 1126) (by decide +kernel))) rfl
theorem wm_1073 : Cond.code yX8_restore cX8_restore 3 (some .int) ∈ sm_tbl := sm_in (List.mem_append_right _ (List.mem_of_getElem? (i := 1127) (by decide +kernel))) rfl
theorem wm_1075 : Cond.constantLong RL 89 4294967295 ∈ sm_tbl := sm_in (List.mem_append_right _ (List.mem_of_getElem? (i := 1128) (by decide +kernel))) rfl
theorem wm_1077 : Cond.selects RX7 yX7_changed yX7_changed ∈ sm_tbl := sm_in (List.mem_append_left _ (List.mem_of_getElem? (i := 0) (by decide +kernel))) rfl
theorem wm_1078 : Cond.selects RX1 yX1_dropOldest yX1_dropOldest ∈ sm_tbl := sm_in (List.mem_append_left _ (List.mem_of_getElem? (i := 1) (by decide +kernel))) rfl
theorem wm_1079 : Cond.selects RX0 yX0_putOutside yX0_putOutside ∈ sm_tbl := sm_in (List.mem_append_left _ (List.mem_of_getElem? (i := 2) (by decide +kernel))) rfl
theorem wm_1080 : Cond.selects RX0 yX0_stand yX0_stand ∈ sm_tbl := sm_in (List.mem_append_left _ (List.mem_of_getElem? (i := 3) (by decide +kernel))) rfl
theorem wm_1081 : Cond.selects RX0 yX0_comeIn yX0_comeIn ∈ sm_tbl := sm_in (List.mem_append_left _ (List.mem_of_getElem? (i := 4) (by decide +kernel))) rfl
theorem wm_1082 : Cond.selects RX0 yX0_letLeave yX0_letLeave ∈ sm_tbl := sm_in (List.mem_append_left _ (List.mem_of_getElem? (i := 5) (by decide +kernel))) rfl
theorem wm_1083 : Cond.selects RX0 yX0_firstToLeave yX0_firstToLeave ∈ sm_tbl := sm_in (List.mem_append_left _ (List.mem_of_getElem? (i := 6) (by decide +kernel))) rfl
theorem wm_1084 : Cond.selects RX0 yX0_canLeave yX0_canLeave ∈ sm_tbl := sm_in (List.mem_append_left _ (List.mem_of_getElem? (i := 7) (by decide +kernel))) rfl
theorem wm_1085 : Cond.selects RX0 yX0_isAtEnd yX0_isAtEnd ∈ sm_tbl := sm_in (List.mem_append_left _ (List.mem_of_getElem? (i := 8) (by decide +kernel))) rfl
theorem wm_1086 : Cond.selects RX0 yX0_goesBefore yX0_goesBefore ∈ sm_tbl := sm_in (List.mem_append_left _ (List.mem_of_getElem? (i := 9) (by decide +kernel))) rfl
theorem wm_1087 : Cond.selects RX0 yX0_leave yX0_leave ∈ sm_tbl := sm_in (List.mem_append_left _ (List.mem_of_getElem? (i := 10) (by decide +kernel))) rfl
theorem wm_1088 : Cond.selects RX0 yX0_nextEvent yX0_nextEvent ∈ sm_tbl := sm_in (List.mem_append_left _ (List.mem_of_getElem? (i := 11) (by decide +kernel))) rfl
theorem wm_1089 : Cond.selects RX0 yX0_notAtEnd yX0_notAtEnd ∈ sm_tbl := sm_in (List.mem_append_left _ (List.mem_of_getElem? (i := 12) (by decide +kernel))) rfl
theorem wm_1090 : Cond.selects RX6 yX6_gatherAt yX6_gatherAt ∈ sm_tbl := sm_in (List.mem_append_left _ (List.mem_of_getElem? (i := 13) (by decide +kernel))) rfl
theorem wm_1091 : Cond.selects RX3 yX3_gatherPair yX3_gatherPair ∈ sm_tbl := sm_in (List.mem_append_left _ (List.mem_of_getElem? (i := 14) (by decide +kernel))) rfl
theorem wm_1092 : Cond.selects RX3 yX3_insert yX3_insert ∈ sm_tbl := sm_in (List.mem_append_left _ (List.mem_of_getElem? (i := 15) (by decide +kernel))) rfl
theorem wm_1093 : Cond.selects RX7 yX7_trialDelay yX7_trialDelay ∈ sm_tbl := sm_in (List.mem_append_left _ (List.mem_of_getElem? (i := 16) (by decide +kernel))) rfl
theorem wm_1094 : Cond.selects RX4 yX4_keepIfBetter yX4_keepIfBetter ∈ sm_tbl := sm_in (List.mem_append_left _ (List.mem_of_getElem? (i := 17) (by decide +kernel))) rfl
theorem wm_1095 : Cond.selects RX4 yX4_nextOrder yX4_nextOrder ∈ sm_tbl := sm_in (List.mem_append_left _ (List.mem_of_getElem? (i := 18) (by decide +kernel))) rfl
theorem wm_1096 : Cond.selects RX4 yX4_swap yX4_swap ∈ sm_tbl := sm_in (List.mem_append_left _ (List.mem_of_getElem? (i := 19) (by decide +kernel))) rfl
theorem wm_1097 : Cond.selects RX5 yX5_readOrder yX5_readOrder ∈ sm_tbl := sm_in (List.mem_append_left _ (List.mem_of_getElem? (i := 20) (by decide +kernel))) rfl
theorem wm_1098 : Cond.selects RX5 yX5_peek yX5_peek ∈ sm_tbl := sm_in (List.mem_append_left _ (List.mem_of_getElem? (i := 21) (by decide +kernel))) rfl
theorem wm_1099 : Cond.selects RX5 yX5_readShuttle yX5_readShuttle ∈ sm_tbl := sm_in (List.mem_append_left _ (List.mem_of_getElem? (i := 22) (by decide +kernel))) rfl
theorem wm_1100 : Cond.selects RX5 yX5_readDigit yX5_readDigit ∈ sm_tbl := sm_in (List.mem_append_left _ (List.mem_of_getElem? (i := 23) (by decide +kernel))) rfl
theorem wm_1101 : Cond.selects RX5 yX5_readSign yX5_readSign ∈ sm_tbl := sm_in (List.mem_append_left _ (List.mem_of_getElem? (i := 24) (by decide +kernel))) rfl
theorem wm_1102 : Cond.selects RX5 yX5_readNumber yX5_readNumber ∈ sm_tbl := sm_in (List.mem_append_left _ (List.mem_of_getElem? (i := 25) (by decide +kernel))) rfl
theorem wm_1103 : Cond.selects RX5 yX5_obeyOrder yX5_obeyOrder ∈ sm_tbl := sm_in (List.mem_append_left _ (List.mem_of_getElem? (i := 26) (by decide +kernel))) rfl
theorem wm_1104 : Cond.selects RX8 yX8_keep yX8_keep ∈ sm_tbl := sm_in (List.mem_append_left _ (List.mem_of_getElem? (i := 27) (by decide +kernel))) rfl
theorem wm_1105 : Cond.selects RX8 yX8_tryTracks yX8_tryTracks ∈ sm_tbl := sm_in (List.mem_append_left _ (List.mem_of_getElem? (i := 28) (by decide +kernel))) rfl
theorem wm_1106 : Cond.selects RX8 yX8_change yX8_change ∈ sm_tbl := sm_in (List.mem_append_left _ (List.mem_of_getElem? (i := 29) (by decide +kernel))) rfl
theorem wm_1107 : Cond.selects RX8 yX8_keepIf yX8_keepIf ∈ sm_tbl := sm_in (List.mem_append_left _ (List.mem_of_getElem? (i := 30) (by decide +kernel))) rfl
theorem wm_1108 : Cond.selects RX8 yX8_tryRunning yX8_tryRunning ∈ sm_tbl := sm_in (List.mem_append_left _ (List.mem_of_getElem? (i := 31) (by decide +kernel))) rfl
theorem wm_1109 : Cond.selects RX8 yX8_tryShuttle yX8_tryShuttle ∈ sm_tbl := sm_in (List.mem_append_left _ (List.mem_of_getElem? (i := 32) (by decide +kernel))) rfl
theorem wm_1110 : Cond.selects RX8 yX8_tryLate yX8_tryLate ∈ sm_tbl := sm_in (List.mem_append_left _ (List.mem_of_getElem? (i := 33) (by decide +kernel))) rfl
theorem wm_1111 : Cond.selects RX8 yX8_whyNotLate yX8_whyNotLate ∈ sm_tbl := sm_in (List.mem_append_left _ (List.mem_of_getElem? (i := 34) (by decide +kernel))) rfl
theorem wm_1112 : Cond.selects RX8 yX8_isShuttle yX8_isShuttle ∈ sm_tbl := sm_in (List.mem_append_left _ (List.mem_of_getElem? (i := 35) (by decide +kernel))) rfl
theorem wm_1113 : Cond.selects RX8 yX8_of yX8_of ∈ sm_tbl := sm_in (List.mem_append_left _ (List.mem_of_getElem? (i := 36) (by decide +kernel))) rfl
theorem wm_1114 : Cond.selects RX8 yX8_tryPrefer yX8_tryPrefer ∈ sm_tbl := sm_in (List.mem_append_left _ (List.mem_of_getElem? (i := 37) (by decide +kernel))) rfl
theorem wm_1115 : Cond.selects RX8 yX8_tryRemove yX8_tryRemove ∈ sm_tbl := sm_in (List.mem_append_left _ (List.mem_of_getElem? (i := 38) (by decide +kernel))) rfl
theorem wm_1116 : Cond.selects RX8 yX8_run yX8_run ∈ sm_tbl := sm_in (List.mem_append_left _ (List.mem_of_getElem? (i := 39) (by decide +kernel))) rfl
theorem wm_1117 : Cond.selects RX8 yX8_isAsRun yX8_isAsRun ∈ sm_tbl := sm_in (List.mem_append_left _ (List.mem_of_getElem? (i := 40) (by decide +kernel))) rfl
theorem wm_1118 : Cond.selects RX8 yX8_beginDay yX8_beginDay ∈ sm_tbl := sm_in (List.mem_append_left _ (List.mem_of_getElem? (i := 41) (by decide +kernel))) rfl
theorem wm_1119 : Cond.selects RX8 yX8_come yX8_come ∈ sm_tbl := sm_in (List.mem_append_left _ (List.mem_of_getElem? (i := 42) (by decide +kernel))) rfl
theorem wm_1120 : Cond.selects RX8 yX8_way yX8_way ∈ sm_tbl := sm_in (List.mem_append_left _ (List.mem_of_getElem? (i := 43) (by decide +kernel))) rfl
theorem wm_1121 : Cond.selects RX8 yX8_meet yX8_meet ∈ sm_tbl := sm_in (List.mem_append_left _ (List.mem_of_getElem? (i := 44) (by decide +kernel))) rfl
theorem wm_1122 : Cond.selects RX8 yX8_leave yX8_leave ∈ sm_tbl := sm_in (List.mem_append_left _ (List.mem_of_getElem? (i := 45) (by decide +kernel))) rfl
theorem wm_1123 : Cond.selects RX8 yX8_nextToLeave yX8_nextToLeave ∈ sm_tbl := sm_in (List.mem_append_left _ (List.mem_of_getElem? (i := 46) (by decide +kernel))) rfl
theorem wm_1124 : Cond.selects RX8 yX8_canLeave yX8_canLeave ∈ sm_tbl := sm_in (List.mem_append_left _ (List.mem_of_getElem? (i := 47) (by decide +kernel))) rfl
theorem wm_1125 : Cond.selects RX8 yX8_isReady yX8_isReady ∈ sm_tbl := sm_in (List.mem_append_left _ (List.mem_of_getElem? (i := 48) (by decide +kernel))) rfl
theorem wm_1126 : Cond.selects RX8 yX8_readyAt yX8_readyAt ∈ sm_tbl := sm_in (List.mem_append_left _ (List.mem_of_getElem? (i := 49) (by decide +kernel))) rfl
theorem wm_1127 : Cond.selects RX8 yX8_whoIsOn yX8_whoIsOn ∈ sm_tbl := sm_in (List.mem_append_left _ (List.mem_of_getElem? (i := 50) (by decide +kernel))) rfl
theorem wm_1128 : Cond.selects RX8 yX8_taken yX8_taken ∈ sm_tbl := sm_in (List.mem_append_left _ (List.mem_of_getElem? (i := 51) (by decide +kernel))) rfl
theorem wm_1129 : Cond.selects RX8 yX8_goesAhead yX8_goesAhead ∈ sm_tbl := sm_in (List.mem_append_left _ (List.mem_of_getElem? (i := 52) (by decide +kernel))) rfl
theorem wm_1130 : Cond.selects RX8 yX8_timeOf yX8_timeOf ∈ sm_tbl := sm_in (List.mem_append_left _ (List.mem_of_getElem? (i := 53) (by decide +kernel))) rfl
theorem wm_1131 : Cond.selects RX8 yX8_waitAll yX8_waitAll ∈ sm_tbl := sm_in (List.mem_append_left _ (List.mem_of_getElem? (i := 54) (by decide +kernel))) rfl
theorem wm_1132 : Cond.selects RX8 yX8_reason yX8_reason ∈ sm_tbl := sm_in (List.mem_append_left _ (List.mem_of_getElem? (i := 55) (by decide +kernel))) rfl
theorem wm_1133 : Cond.selects RX8 yX8_ends yX8_ends ∈ sm_tbl := sm_in (List.mem_append_left _ (List.mem_of_getElem? (i := 56) (by decide +kernel))) rfl
theorem wm_1134 : Cond.selects RX8 yX8_endOf yX8_endOf ∈ sm_tbl := sm_in (List.mem_append_left _ (List.mem_of_getElem? (i := 57) (by decide +kernel))) rfl
theorem wm_1135 : Cond.selects RX8 yX8_delayOf yX8_delayOf ∈ sm_tbl := sm_in (List.mem_append_left _ (List.mem_of_getElem? (i := 58) (by decide +kernel))) rfl
theorem wm_1136 : Cond.selects RX8 yX8_waited yX8_waited ∈ sm_tbl := sm_in (List.mem_append_left _ (List.mem_of_getElem? (i := 59) (by decide +kernel))) rfl
theorem wm_1137 : Cond.selects RX8 yX8_blamed yX8_blamed ∈ sm_tbl := sm_in (List.mem_append_left _ (List.mem_of_getElem? (i := 60) (by decide +kernel))) rfl
theorem wm_1138 : Cond.selects RX8 yX8_delay yX8_delay ∈ sm_tbl := sm_in (List.mem_append_left _ (List.mem_of_getElem? (i := 61) (by decide +kernel))) rfl
theorem wm_1139 : Cond.selects RX8 yX8_meetings yX8_meetings ∈ sm_tbl := sm_in (List.mem_append_left _ (List.mem_of_getElem? (i := 62) (by decide +kernel))) rfl
theorem wm_1140 : Cond.selects RX8 yX8_allWaits yX8_allWaits ∈ sm_tbl := sm_in (List.mem_append_left _ (List.mem_of_getElem? (i := 63) (by decide +kernel))) rfl
theorem wm_1141 : Cond.selects RX8 yX8_greatestDelay yX8_greatestDelay ∈ sm_tbl := sm_in (List.mem_append_left _ (List.mem_of_getElem? (i := 64) (by decide +kernel))) rfl
theorem wm_1142 : Cond.selects RX8 yX8_placeIn yX8_placeIn ∈ sm_tbl := sm_in (List.mem_append_left _ (List.mem_of_getElem? (i := 65) (by decide +kernel))) rfl
theorem wm_1143 : Cond.selects RX8 yX8_stationIn yX8_stationIn ∈ sm_tbl := sm_in (List.mem_append_left _ (List.mem_of_getElem? (i := 66) (by decide +kernel))) rfl
theorem wm_1144 : Cond.selects RX8 yX8_hasLeft yX8_hasLeft ∈ sm_tbl := sm_in (List.mem_append_left _ (List.mem_of_getElem? (i := 67) (by decide +kernel))) rfl
theorem wm_1145 : Cond.selects RX8 yX8_reasonIn yX8_reasonIn ∈ sm_tbl := sm_in (List.mem_append_left _ (List.mem_of_getElem? (i := 68) (by decide +kernel))) rfl
theorem wm_1146 : Cond.selects RX8 yX8_ahead yX8_ahead ∈ sm_tbl := sm_in (List.mem_append_left _ (List.mem_of_getElem? (i := 69) (by decide +kernel))) rfl
theorem wm_1147 : Cond.selects RX8 yX8_isAhead yX8_isAhead ∈ sm_tbl := sm_in (List.mem_append_left _ (List.mem_of_getElem? (i := 70) (by decide +kernel))) rfl
theorem wm_1148 : Cond.selects RX8 yX8_layAside yX8_layAside ∈ sm_tbl := sm_in (List.mem_append_left _ (List.mem_of_getElem? (i := 71) (by decide +kernel))) rfl
theorem wm_1149 : Cond.selects RX8 yX8_delayNow yX8_delayNow ∈ sm_tbl := sm_in (List.mem_append_left _ (List.mem_of_getElem? (i := 72) (by decide +kernel))) rfl
theorem wm_1150 : Cond.selects RX8 yX8_layBack yX8_layBack ∈ sm_tbl := sm_in (List.mem_append_left _ (List.mem_of_getElem? (i := 73) (by decide +kernel))) rfl
theorem wm_1151 : Cond.selects RX8 yX8_orders yX8_orders ∈ sm_tbl := sm_in (List.mem_append_left _ (List.mem_of_getElem? (i := 74) (by decide +kernel))) rfl
theorem wm_1152 : Cond.selects RX8 yX8_layOrder yX8_layOrder ∈ sm_tbl := sm_in (List.mem_append_left _ (List.mem_of_getElem? (i := 75) (by decide +kernel))) rfl
theorem wm_1153 : Cond.selects RX8 yX8_delayInOrder yX8_delayInOrder ∈ sm_tbl := sm_in (List.mem_append_left _ (List.mem_of_getElem? (i := 76) (by decide +kernel))) rfl
theorem wm_1154 : Cond.selects RX8 yX8_takeOrder yX8_takeOrder ∈ sm_tbl := sm_in (List.mem_append_left _ (List.mem_of_getElem? (i := 77) (by decide +kernel))) rfl
theorem wm_1155 : Cond.selects RX8 yX8_next yX8_next ∈ sm_tbl := sm_in (List.mem_append_left _ (List.mem_of_getElem? (i := 78) (by decide +kernel))) rfl
theorem wm_1156 : Cond.selects RX8 yX8_takeShuttle yX8_takeShuttle ∈ sm_tbl := sm_in (List.mem_append_left _ (List.mem_of_getElem? (i := 79) (by decide +kernel))) rfl
theorem wm_1157 : Cond.selects RX8 yX8_takeOne yX8_takeOne ∈ sm_tbl := sm_in (List.mem_append_left _ (List.mem_of_getElem? (i := 80) (by decide +kernel))) rfl
theorem wm_1158 : Cond.selects RX8 yX8_takeSign yX8_takeSign ∈ sm_tbl := sm_in (List.mem_append_left _ (List.mem_of_getElem? (i := 81) (by decide +kernel))) rfl
theorem wm_1159 : Cond.selects RX8 yX8_takeNumber yX8_takeNumber ∈ sm_tbl := sm_in (List.mem_append_left _ (List.mem_of_getElem? (i := 82) (by decide +kernel))) rfl
theorem wm_1160 : Cond.selects RX8 yX8_carry yX8_carry ∈ sm_tbl := sm_in (List.mem_append_left _ (List.mem_of_getElem? (i := 83) (by decide +kernel))) rfl
end
section
/-! THE SMALL MACHINE: worlds, values, one step an instruction; its soundness over the kit's rows follows in 03 -/
abbrev sm_V : Type := Int ⊕ (Nat ⊕ Int64)
abbrev sm_W : Type := Nat × (Nat → Nat × Nat) × (Nat → Int → Int) × (Nat → Int → Option Nat)
def wI (w : sm_W) (a : Nat) (i : Int) : Int := w.2.2.1 a i
def wR (w : sm_W) (a : Nat) (i : Int) : Option Nat := w.2.2.2 a i
def wS (w : sm_W) (a : Nat) : Nat × Nat := w.2.1 a
def wsI (w : sm_W) (a : Nat) (i v : Int) : sm_W := (w.1, w.2.1, (fun x j => if x = a ∧ j = i then v else w.2.2.1 x j), w.2.2.2)
def wsR (w : sm_W) (a : Nat) (i : Int) (v : Nat) : sm_W := (w.1, w.2.1, w.2.2.1, (fun x j => if x = a ∧ j = i then some v else w.2.2.2 x j))
def wNw (w : sm_W) (kd sz : Nat) : sm_W := (w.1 + 1, (fun x => if x = w.1 then (kd, sz) else w.2.1 x), (fun x j => if x = w.1 then 0 else w.2.2.1 x j), (fun x j => if x = w.1 then none else w.2.2.2 x j))
def wCp (w : sm_W) (src dst : Nat) (n : Int) : sm_W := (w.1, w.2.1, (fun x j => if x = dst ∧ 0 ≤ j ∧ j < n then w.2.2.1 src j else w.2.2.1 x j), w.2.2.2)
theorem wI_wsI (w : sm_W) (a : Nat) (i v : Int) (x : Nat) (j : Int) : wI (wsI w a i v) x j = if x = a ∧ j = i then v else wI w x j := rfl
theorem wI_wsR (w : sm_W) (a : Nat) (i : Int) (v : Nat) (x : Nat) (j : Int) : wI (wsR w a i v) x j = wI w x j := rfl
theorem wR_wsI (w : sm_W) (a : Nat) (i v : Int) (x : Nat) (j : Int) : wR (wsI w a i v) x j = wR w x j := rfl
theorem wR_wsR (w : sm_W) (a : Nat) (i : Int) (v : Nat) (x : Nat) (j : Int) : wR (wsR w a i v) x j = if x = a ∧ j = i then some v else wR w x j := rfl
theorem wS_wsI (w : sm_W) (a : Nat) (i v : Int) (x : Nat) : wS (wsI w a i v) x = wS w x := rfl
theorem wS_wsR (w : sm_W) (a : Nat) (i : Int) (v : Nat) (x : Nat) : wS (wsR w a i v) x = wS w x := rfl
theorem wI_wCp (w : sm_W) (a b : Nat) (n : Int) (x : Nat) (j : Int) : wI (wCp w a b n) x j = if x = b ∧ 0 ≤ j ∧ j < n then wI w a j else wI w x j := rfl
theorem wR_wCp (w : sm_W) (a b : Nat) (n : Int) (x : Nat) (j : Int) : wR (wCp w a b n) x j = wR w x j := rfl
theorem wS_wCp (w : sm_W) (a b : Nat) (n : Int) (x : Nat) : wS (wCp w a b n) x = wS w x := rfl
/-- the numbers of 32 bits -/
def sm_r (n : Int) : Prop := -2147483648 ≤ n ∧ n ≤ 2147483647
def sm_ok : sm_V → Prop
  | .inl n => sm_r n
  | .inr _ => True
/-- a slot may be stored to: no long begins in the slot before it -/
def sm_nl (ls : List (Option sm_V)) (i : Nat) : Bool := match i with
  | 0 => true
  | i + 1 => match ls[i]? with
    | some (some (.inr (.inr _))) => false
    | _ => true
def sm_wd : sm_V → Nat
  | .inr (.inr _) => 2
  | _ => 1
def sm_wds : List sm_V → Nat
  | [] => 0
  | v :: r => sm_wd v + sm_wds r
abbrev sm_K : Type := List (Option sm_V) → List sm_V → sm_W → Nat → Nat → Prop
abbrev sm_Par : Type := (Option sm_V → sm_W → Prop) × Nat × Nat
abbrev sm_O : Type := sm_Par → sm_K → (Nat → sm_K) → sm_K
-- the steps
def oK (n : Int) : sm_O := fun _ Nx _ ls st w k q => Nx ls (.inl n :: st) w k q
def oLK (n : Int64) : sm_O := fun _ Nx _ ls st w k q => Nx ls (.inr (.inr n) :: st) w k q
def oL (i : Nat) : sm_O := fun _ Nx _ ls st w k q => match ls[i]? with
  | some (some v) => Nx ls (v :: st) w k q
  | _ => False
def oI (i : Nat) : sm_O := fun _ Nx _ ls st w k q => match ls[i]? with
  | some (some (.inl v)) => Nx ls (.inl v :: st) w k q
  | _ => False
def oA (i : Nat) : sm_O := fun _ Nx _ ls st w k q => match ls[i]? with
  | some (some (.inr (.inl v))) => Nx ls (.inr (.inl v) :: st) w k q
  | _ => False
def oJ (i : Nat) : sm_O := fun _ Nx _ ls st w k q => match ls[i]? with
  | some (some (.inr (.inr v))) => Nx ls (.inr (.inr v) :: st) w k q
  | _ => False
def oIs (i : Nat) : sm_O := fun _ Nx _ ls st w k q => match st with
  | .inl v :: st => i < ls.length ∧ sm_nl ls i = true ∧ Nx (ls.set i (some (.inl v))) st w k q
  | _ => False
def oAs (i : Nat) : sm_O := fun _ Nx _ ls st w k q => match st with
  | .inr (.inl v) :: st => i < ls.length ∧ sm_nl ls i = true ∧ Nx (ls.set i (some (.inr (.inl v)))) st w k q
  | _ => False
def oJs (i : Nat) : sm_O := fun _ Nx _ ls st w k q => match st with
  | .inr (.inr v) :: st => i + 1 < ls.length ∧ sm_nl ls i = true ∧ Nx ((ls.set i (some (.inr (.inr v)))).set (i + 1) none) st w k q
  | _ => False
def oInc (i : Nat) (n : Int) : sm_O := fun _ Nx _ ls st w k q => match ls[i]? with
  | some (some (.inl v)) => i < ls.length ∧ sm_nl ls i = true ∧ sm_r (v + n) ∧ Nx (ls.set i (some (.inl (v + n)))) st w k q
  | _ => False
def oAdd : sm_O := fun _ Nx _ ls st w k q => match st with
  | .inl y :: .inl x :: st => sm_r (x + y) ∧ Nx ls (.inl (x + y) :: st) w k q
  | _ => False
def oSub : sm_O := fun _ Nx _ ls st w k q => match st with
  | .inl y :: .inl x :: st => sm_r (x - y) ∧ Nx ls (.inl (x - y) :: st) w k q
  | _ => False
def oMul : sm_O := fun _ Nx _ ls st w k q => match st with
  | .inl y :: .inl x :: st => sm_r (x * y) ∧ Nx ls (.inl (x * y) :: st) w k q
  | _ => False
def oDiv : sm_O := fun _ Nx _ ls st w k q => match st with
  | .inl y :: .inl x :: st => 0 ≤ x ∧ 0 < y ∧ Nx ls (.inl (x / y) :: st) w k q
  | _ => False
def oRem : sm_O := fun _ Nx _ ls st w k q => match st with
  | .inl y :: .inl x :: st => 0 ≤ x ∧ 0 < y ∧ Nx ls (.inl (x % y) :: st) w k q
  | _ => False
def oNeg : sm_O := fun _ Nx _ ls st w k q => match st with
  | .inl x :: st => sm_r (-x) ∧ Nx ls (.inl (-x) :: st) w k q
  | _ => False
/-- x & m for a mask of low bits -/
def oAnd : sm_O := fun _ Nx _ ls st w k q => match st with
  | .inl y :: .inl x :: st => y = 31 ∧ Nx ls (.inl (x % 32) :: st) w k q
  | _ => False
def oAndB : sm_O := fun _ Nx _ ls st w k q => match st with
  | .inl y :: .inl x :: st => (x = 0 ∨ x = 1) ∧ (y = 0 ∨ y = 1) ∧ Nx ls (.inl (x * y) :: st) w k q
  | _ => False
def oOr : sm_O := fun _ Nx _ ls st w k q => match st with
  | .inl y :: .inl x :: st => 0 ≤ x ∧ x < 65536 ∧ 0 ≤ y ∧ y < 65536 ∧ Nx ls (.inl ((x.toNat ||| y.toNat : Nat) : Int) :: st) w k q
  | _ => False
def oShl : sm_O := fun _ Nx _ ls st w k q => match st with
  | .inl y :: .inl x :: st => x = 1 ∧ 0 ≤ y ∧ y < 16 ∧ Nx ls (.inl ((2 ^ y.toNat : Nat) : Int) :: st) w k q
  | _ => False
def oI2c : sm_O := fun _ Nx _ ls st w k q => match st with
  | .inl x :: st => 0 ≤ x ∧ x < 65536 ∧ Nx ls (.inl x :: st) w k q
  | _ => False
def oI2l : sm_O := fun _ Nx _ ls st w k q => match st with
  | .inl x :: st => Nx ls (.inr (.inr (Int32.ofInt x).toInt64) :: st) w k q
  | _ => False
def oL2i : sm_O := fun _ Nx _ ls st w k q => match st with
  | .inr (.inr x) :: st => Nx ls (.inl x.toInt32.toInt :: st) w k q
  | _ => False
def oLand : sm_O := fun _ Nx _ ls st w k q => match st with
  | .inr (.inr y) :: .inr (.inr x) :: st => Nx ls (.inr (.inr (x &&& y)) :: st) w k q
  | _ => False
def oLor : sm_O := fun _ Nx _ ls st w k q => match st with
  | .inr (.inr y) :: .inr (.inr x) :: st => Nx ls (.inr (.inr (x ||| y)) :: st) w k q
  | _ => False
def oLshl : sm_O := fun _ Nx _ ls st w k q => match st with
  | .inl y :: .inr (.inr x) :: st => Nx ls (.inr (.inr (x <<< ((Int32.ofInt y).toInt64 &&& 63))) :: st) w k q
  | _ => False
def oLshr : sm_O := fun _ Nx _ ls st w k q => match st with
  | .inl y :: .inr (.inr x) :: st => Nx ls (.inr (.inr (x >>> ((Int32.ofInt y).toInt64 &&& 63))) :: st) w k q
  | _ => False
def oLushr : sm_O := fun _ Nx _ ls st w k q => match st with
  | .inl y :: .inr (.inr x) :: st => Nx ls (.inr (.inr (x.toUInt64 >>> ((Int32.ofInt y).toInt64.toUInt64 &&& Int64.toUInt64 63)).toInt64) :: st) w k q
  | _ => False
def oLcmp : sm_O := fun _ Nx _ ls st w k q => match st with
  | .inr (.inr y) :: .inr (.inr x) :: st => Nx ls (.inl (lg_cmp x y).toInt :: st) w k q
  | _ => False
def oDup : sm_O := fun _ Nx _ ls st w k q => match st with
  | v :: st => sm_wd v = 1 ∧ Nx ls (v :: v :: st) w k q
  | _ => False
def oDup2 : sm_O := fun _ Nx _ ls st w k q => match st with
  | v :: u :: st => sm_wd v = 1 ∧ sm_wd u = 1 ∧ Nx ls (v :: u :: v :: u :: st) w k q
  | _ => False
def oPop : sm_O := fun _ Nx _ ls st w k q => match st with
  | v :: st => sm_wd v = 1 ∧ Nx ls st w k q
  | _ => False
/-- a local's value is forgotten -/
def oFg (i : Nat) : sm_O := fun _ Nx _ ls st w k q => Nx (ls.set i none) st w k q
def oGo (t : Nat) : sm_O := fun _ _ J ls st w k q => J t ls st w k q
def oEq (t : Nat) : sm_O := fun _ Nx J ls st w k q => match st with
  | .inl y :: .inl x :: st => (x = y → J t ls st w k q) ∧ (¬ x = y → Nx ls st w k q)
  | _ => False
def oNe (t : Nat) : sm_O := fun _ Nx J ls st w k q => match st with
  | .inl y :: .inl x :: st => (¬ x = y → J t ls st w k q) ∧ (x = y → Nx ls st w k q)
  | _ => False
def oLt (t : Nat) : sm_O := fun _ Nx J ls st w k q => match st with
  | .inl y :: .inl x :: st => (x < y → J t ls st w k q) ∧ (y ≤ x → Nx ls st w k q)
  | _ => False
def oGe (t : Nat) : sm_O := fun _ Nx J ls st w k q => match st with
  | .inl y :: .inl x :: st => (y ≤ x → J t ls st w k q) ∧ (x < y → Nx ls st w k q)
  | _ => False
def oGt (t : Nat) : sm_O := fun _ Nx J ls st w k q => match st with
  | .inl y :: .inl x :: st => (y < x → J t ls st w k q) ∧ (x ≤ y → Nx ls st w k q)
  | _ => False
def oLe (t : Nat) : sm_O := fun _ Nx J ls st w k q => match st with
  | .inl y :: .inl x :: st => (x ≤ y → J t ls st w k q) ∧ (y < x → Nx ls st w k q)
  | _ => False
def oEq0 (t : Nat) : sm_O := fun _ Nx J ls st w k q => match st with
  | .inl x :: st => (x = 0 → J t ls st w k q) ∧ (¬ x = 0 → Nx ls st w k q)
  | _ => False
def oNe0 (t : Nat) : sm_O := fun _ Nx J ls st w k q => match st with
  | .inl x :: st => (¬ x = 0 → J t ls st w k q) ∧ (x = 0 → Nx ls st w k q)
  | _ => False
def oLt0 (t : Nat) : sm_O := fun _ Nx J ls st w k q => match st with
  | .inl x :: st => (x < 0 → J t ls st w k q) ∧ (0 ≤ x → Nx ls st w k q)
  | _ => False
def oGe0 (t : Nat) : sm_O := fun _ Nx J ls st w k q => match st with
  | .inl x :: st => (0 ≤ x → J t ls st w k q) ∧ (x < 0 → Nx ls st w k q)
  | _ => False
def oGt0 (t : Nat) : sm_O := fun _ Nx J ls st w k q => match st with
  | .inl x :: st => (0 < x → J t ls st w k q) ∧ (x ≤ 0 → Nx ls st w k q)
  | _ => False
def oLe0 (t : Nat) : sm_O := fun _ Nx J ls st w k q => match st with
  | .inl x :: st => (x ≤ 0 → J t ls st w k q) ∧ (0 < x → Nx ls st w k q)
  | _ => False
def sm_cases (J : Nat → Prop) (x : Int) : Int → List Nat → Prop
  | _, [] => True
  | lo, t :: ts => (x = lo → J t) ∧ sm_cases J x (lo + 1) ts
def oSw (lo : Int) (ts : List Nat) (d : Nat) : sm_O := fun _ _ J ls st w k q => match st with
  | .inl x :: st => sm_cases (fun t => J t ls st w k q) x lo ts ∧ ((x < lo ∨ lo + ts.length ≤ x) → J d ls st w k q)
  | _ => False
-- objects and arrays: of class ci with N slots, the slot k
def oGi (ci N : Nat) (k : Int) : sm_O := fun _ Nx _ ls st w kk q => match st with
  | .inr (.inl a) :: st => wS w a = (ci, N) ∧ Nx ls (.inl (wI w a k) :: st) w kk q
  | _ => False
def oGr (ci N : Nat) (k : Int) : sm_O := fun _ Nx _ ls st w kk q => match st with
  | .inr (.inl a) :: st => wS w a = (ci, N) ∧ ∃ b, wR w a k = some b ∧ Nx ls (.inr (.inl b) :: st) w kk q
  | _ => False
def oPi (ci N : Nat) (k : Int) : sm_O := fun _ Nx _ ls st w kk q => match st with
  | .inl v :: .inr (.inl a) :: st => wS w a = (ci, N) ∧ Nx ls st (wsI w a k v) kk q
  | _ => False
/-- a boolean field -/
def oPz (ci N : Nat) (k : Int) : sm_O := fun _ Nx _ ls st w kk q => match st with
  | .inl v :: .inr (.inl a) :: st => wS w a = (ci, N) ∧ (v = 0 ∨ v = 1) ∧ Nx ls st (wsI w a k v) kk q
  | _ => False
def oPr (ci N : Nat) (k : Int) : sm_O := fun _ Nx _ ls st w kk q => match st with
  | .inr (.inl v) :: .inr (.inl a) :: st => wS w a = (ci, N) ∧ Nx ls st (wsR w a k v) kk q
  | _ => False
def oLen : sm_O := fun _ Nx _ ls st w k q => match st with
  | .inr (.inl a) :: st => ((9 ≤ (wS w a).1 ∧ (wS w a).1 < 14) ∨ ((wS w a).1 = 14 ∧ a = 1000)) ∧ ((wS w a).2 : Int) ≤ 2147483647 ∧ Nx ls (.inl ((wS w a).2 : Int) :: st) w k q
  | _ => False
/-- int[] : 9, boolean[] : 10, char[] : 11, Line[] : 12, int[][] : 13, the script : 14 -/
def oIl : sm_O := fun _ Nx _ ls st w k q => match st with
  | .inl i :: .inr (.inl a) :: st => ((wS w a).1 = 9 ∨ ((wS w a).1 = 14 ∧ a = 1000)) ∧ 0 ≤ i ∧ i < (wS w a).2 ∧ Nx ls (.inl (wI w a i) :: st) w k q
  | _ => False
def oZl : sm_O := fun _ Nx _ ls st w k q => match st with
  | .inl i :: .inr (.inl a) :: st => (wS w a).1 = 10 ∧ 0 ≤ i ∧ i < (wS w a).2 ∧ Nx ls (.inl (wI w a i) :: st) w k q
  | _ => False
def oCl : sm_O := fun _ Nx _ ls st w k q => match st with
  | .inl i :: .inr (.inl a) :: st => (wS w a).1 = 11 ∧ 0 ≤ i ∧ i < (wS w a).2 ∧ Nx ls (.inl (wI w a i) :: st) w k q
  | _ => False
def oRl : sm_O := fun _ Nx _ ls st w k q => match st with
  | .inl i :: .inr (.inl a) :: st => ((wS w a).1 = 12 ∨ (wS w a).1 = 13) ∧ 0 ≤ i ∧ i < (wS w a).2 ∧ ∃ b, wR w a i = some b ∧ Nx ls (.inr (.inl b) :: st) w k q
  | _ => False
def oIst : sm_O := fun _ Nx _ ls st w k q => match st with
  | .inl v :: .inl i :: .inr (.inl a) :: st => (wS w a).1 = 9 ∧ 0 ≤ i ∧ i < (wS w a).2 ∧ Nx ls st (wsI w a i v) k q
  | _ => False
def oZst : sm_O := fun _ Nx _ ls st w k q => match st with
  | .inl v :: .inl i :: .inr (.inl a) :: st => (wS w a).1 = 10 ∧ 0 ≤ i ∧ i < (wS w a).2 ∧ (v = 0 ∨ v = 1) ∧ Nx ls st (wsI w a i v) k q
  | _ => False
def oCst : sm_O := fun _ Nx _ ls st w k q => match st with
  | .inl v :: .inl i :: .inr (.inl a) :: st => (wS w a).1 = 11 ∧ 0 ≤ i ∧ i < (wS w a).2 ∧ 0 ≤ v ∧ v < 65536 ∧ Nx ls st (wsI w a i v) k q
  | _ => False
/-- a Line into a Line[] -/
def oRst : sm_O := fun _ Nx _ ls st w k q => match st with
  | .inr (.inl v) :: .inl i :: .inr (.inl a) :: st => (wS w a).1 = 12 ∧ wS w v = (2, 9) ∧ 0 ≤ i ∧ i < (wS w a).2 ∧ Nx ls st (wsR w a i v) k q
  | _ => False
def oCopy : sm_O := fun _ Nx _ ls st w k q => match st with
  | .inl n :: .inl dp :: .inr (.inl d) :: .inl sp :: .inr (.inl a) :: st => (wS w a).1 = 9 ∧ (wS w d).1 = 9 ∧ sp = 0 ∧ dp = 0 ∧ 0 ≤ n ∧ n ≤ (wS w a).2 ∧ n ≤ (wS w d).2 ∧ sm_wds st ≤ 8 ∧ Nx ls st (wCp w a d n) k q
  | _ => False
-- new objects and arrays
def oNew (ci N : Nat) : sm_O := fun P Nx _ ls st w k q => w.1 < 1000 ∧ k + 1 ≤ P.2.1 ∧ q + N ≤ P.2.2 ∧ Nx ls (.inr (.inl w.1) :: st) (wNw w ci N) (k + 1) (q + N)
/-- kd: 9 int, 10 boolean, 11 char, 12 Line -/
def oNa (kd : Nat) : sm_O := fun P Nx _ ls st w k q => match st with
  | .inl n :: st => 0 ≤ n ∧ n ≤ 1000 ∧ w.1 < 1000 ∧ k + 1 ≤ P.2.1 ∧ q + n.toNat ≤ P.2.2 ∧ Nx ls (.inr (.inl w.1) :: st) (wNw w kd n.toNat) (k + 1) (q + n.toNat)
  | _ => False
/-- new int[n][m]: the outer array first, then its rows -/
def wNw2 (w : sm_W) (n m : Nat) : sm_W := (w.1 + 1 + n, (fun x => if x = w.1 then (13, n) else if w.1 < x ∧ x < w.1 + 1 + n then (9, m) else w.2.1 x), (fun x j => if w.1 ≤ x ∧ x < w.1 + 1 + n then 0 else w.2.2.1 x j), (fun x j => if x = w.1 then (if 0 ≤ j ∧ j < (n : Int) then some (w.1 + 1 + j.toNat) else none) else if w.1 < x ∧ x < w.1 + 1 + n then none else w.2.2.2 x j))
def oNa2 : sm_O := fun P Nx _ ls st w k q => match st with
  | .inl m :: .inl n :: st => 0 ≤ n ∧ n ≤ 100 ∧ 0 ≤ m ∧ m ≤ 1000 ∧ w.1 + 1 + n.toNat ≤ 1000 ∧ k + 1 + n.toNat ≤ P.2.1 ∧ q + n.toNat + n.toNat * m.toNat ≤ P.2.2 ∧ Nx ls (.inr (.inl w.1) :: st) (wNw2 w n.toNat m.toNat) (k + 1 + n.toNat) (q + n.toNat + n.toNat * m.toNat)
  | _ => False
/-- Object's constructor -/
def oObj : sm_O := fun _ Nx _ ls st w k q => match st with
  | .inr (.inl _) :: st => sm_wds st ≤ 8 ∧ Nx ls st w k q
  | _ => False
-- calls
def sm_pop : Nat → List sm_V → List sm_V → Option (List sm_V × List sm_V)
  | 0, st, acc => some (acc, st)
  | n + 1, v :: st, acc => sm_pop n st (v :: acc)
  | _ + 1, [], _ => none
abbrev sm_F : Type := List sm_V → sm_W → Option sm_V × sm_W
def sm_back (Nx : sm_K) (ls : List (Option sm_V)) (st : List sm_V) (k q : Nat) : Option sm_V × sm_W → Prop
  | (none, w) => Nx ls st w k q
  | (some v, w) => Nx ls (v :: st) w k q
/-- a static method: its premise, its answer and world, its cells and slots, how many arguments -/
def oCs (Pre : List sm_V → sm_W → Prop) (F : sm_F) (mc ms n : Nat) : sm_O := fun P Nx _ ls st w k q => match sm_pop n st [] with
  | some (as, st) => Pre as w ∧ sm_wds st ≤ 8 ∧ k + mc ≤ P.2.1 ∧ q + ms ≤ P.2.2 ∧ sm_back Nx ls st (k + mc) (q + ms) (F as w)
  | none => False
/-- a method of an object of class ci with N slots: the object is the first of n arguments -/
def oCv (ci N : Nat) (Pre : List sm_V → sm_W → Prop) (F : sm_F) (mc ms n : Nat) : sm_O := fun P Nx _ ls st w k q => match sm_pop n st [] with
  | some (.inr (.inl a) :: as, st) => wS w a = (ci, N) ∧ Pre (.inr (.inl a) :: as) w ∧ sm_wds st ≤ 8 ∧ k + mc ≤ P.2.1 ∧ q + ms ≤ P.2.2 ∧ sm_back Nx ls st (k + mc) (q + ms) (F (.inr (.inl a) :: as) w)
  | _ => False
/-- a private constructor of a nest mate, or any constructor: as a method, the object's class is not asked -/
def oCi (Pre : List sm_V → sm_W → Prop) (F : sm_F) (mc ms n : Nat) : sm_O := fun P Nx _ ls st w k q => match sm_pop n st [] with
  | some (.inr (.inl a) :: as, st) => Pre (.inr (.inl a) :: as) w ∧ sm_wds st ≤ 8 ∧ k + mc ≤ P.2.1 ∧ q + ms ≤ P.2.2 ∧ sm_back Nx ls st (k + mc) (q + ms) (F (.inr (.inl a) :: as) w)
  | _ => False
-- ends
def oIr : sm_O := fun P _ _ _ st w k q => match st with
  | [.inl n] => k ≤ P.2.1 ∧ q ≤ P.2.2 ∧ P.1 (some (.inl n)) w
  | _ => False
def oZr : sm_O := fun P _ _ _ st w k q => match st with
  | [.inl n] => (n = 0 ∨ n = 1) ∧ k ≤ P.2.1 ∧ q ≤ P.2.2 ∧ P.1 (some (.inl n)) w
  | _ => False
def oVr : sm_O := fun P _ _ _ st w k q => match st with
  | [] => k ≤ P.2.1 ∧ q ≤ P.2.2 ∧ P.1 none w
  | _ => False
-- blocks, and runs of blocks
def sm_blk (P : sm_Par) (J : Nat → sm_K) : List sm_O → sm_K
  | [] => fun _ _ _ _ _ => False
  | o :: r => fun ls st w k q => o P (sm_blk P J r) J ls st w k q
def sm_run (cd : Nat → List sm_O) (P : sm_Par) (stop : Nat → Bool) (Z : Nat → sm_K) : Nat → Nat → sm_K
  | 0, t => Z t
  | n + 1, t => sm_blk P (fun u => match stop u with
    | true => Z u
    | false => sm_run cd P stop Z n u) (cd t)
end
section
/-! what a world of the small machine is on the heap, and that the kit's cells are it -/
theorem i3_add (x y : Int) : Int32.ofInt x + Int32.ofInt y = Int32.ofInt (x + y) := (Int32.ofInt_add x y).symm
theorem i3_sub (x y : Int) : Int32.ofInt x - Int32.ofInt y = Int32.ofInt (x - y) := (Int32.ofInt_sub x y).symm
theorem i3_mul (x y : Int) : Int32.ofInt x * Int32.ofInt y = Int32.ofInt (x * y) := (Int32.ofInt_mul x y).symm
theorem i3_toInt {n : Int} (h : sm_r n) : (Int32.ofInt n).toInt = n := Int32.toInt_ofInt_of_le (by have := h.1; omega) (by have := h.2; omega)
theorem i3_self (x : Int32) : Int32.ofInt x.toInt = x := Int32.ofInt_toInt x
theorem i3_rng (x : Int32) : sm_r x.toInt := ⟨by have := Int32.le_toInt x; omega, by have := Int32.toInt_lt x; omega⟩
theorem i3_eq {x y : Int} (hx : sm_r x) (hy : sm_r y) : Int32.ofInt x = Int32.ofInt y ↔ x = y := ⟨fun h => by rw [← i3_toInt hx, h, i3_toInt hy], fun h => by rw [h]⟩
theorem i3_lt {x y : Int} (hx : sm_r x) (hy : sm_r y) : Int32.ofInt x < Int32.ofInt y ↔ x < y := by rw [Int32.lt_iff_toInt_lt, i3_toInt hx, i3_toInt hy]
theorem i3_le {x y : Int} (hx : sm_r x) (hy : sm_r y) : Int32.ofInt x ≤ Int32.ofInt y ↔ x ≤ y := by rw [Int32.le_iff_toInt_le, i3_toInt hx, i3_toInt hy]
theorem i3_0 : sm_r 0 := ⟨by decide, by decide⟩
theorem i3_z : (0 : Int32) = Int32.ofInt 0 := rfl
theorem i3_cl {i : Int} (h0 : 0 ≤ i) (hr : sm_r i) : ((Int32.ofInt i).toNatClampNeg : Int) = i := by
  show (((Int32.ofInt i).toInt.toNat : Nat) : Int) = i
  rw [i3_toInt hr]
  omega
theorem i3_cN {i : Int} (hr : sm_r i) : (Int32.ofInt i).toNatClampNeg = i.toNat := by
  show (Int32.ofInt i).toInt.toNat = i.toNat
  rw [i3_toInt hr]
theorem i3_in {i : Int} {n : Nat} (h0 : 0 ≤ i) (h1 : i < n) (hr : sm_r i) : vp_in (Int32.ofInt i) n := by
  rw [vp_in_iff, i3_toInt hr]
  exact ⟨h0, h1⟩
theorem i3_n {i : Int} (h0 : 0 ≤ i) : Int32.ofInt i = nI i.toNat := by
  show Int32.ofInt i = Int32.ofNat i.toNat
  rw [← Int32.ofInt_eq_ofNat, Int.toNat_of_nonneg h0]
theorem i3_div {x y : Int} (hx : 0 ≤ x) (hy : 0 < y) (hrx : sm_r x) (hry : sm_r y) : Int32.ofInt x / Int32.ofInt y = Int32.ofInt (x / y) := by
  have h1 := hrx.2
  have h2 := hry.2
  rw [i3_n hx, i3_n (Int.le_of_lt hy), i3_n (Int.ediv_nonneg hx (Int.le_of_lt hy)), pk_div (by omega) (by omega) (by omega)]
  congr 1
  have hz : ((x.toNat / y.toNat : Nat) : Int) = x / y := by rw [Int.natCast_ediv, Int.toNat_of_nonneg hx, Int.toNat_of_nonneg (Int.le_of_lt hy)]
  rw [← hz, Int.toNat_natCast]
theorem i3_rem {x y : Int} (hx : 0 ≤ x) (hy : 0 < y) (hrx : sm_r x) (hry : sm_r y) : Int32.ofInt x - Int32.ofInt x / Int32.ofInt y * Int32.ofInt y = Int32.ofInt (x % y) := by
  have h1 := hrx.2
  have h2 := hry.2
  rw [i3_n hx, i3_n (Int.le_of_lt hy), i3_n (Int.emod_nonneg x (by omega)), pk_rem (by omega) (by omega) (by omega)]
  congr 1
  have hz : ((x.toNat % y.toNat : Nat) : Int) = x % y := by rw [Int.natCast_emod, Int.toNat_of_nonneg hx, Int.toNat_of_nonneg (Int.le_of_lt hy)]
  rw [← hz, Int.toNat_natCast]
/-- addresses: the script's is sb, an object's is its number behind b -/
def sm_ea (b sb id : Nat) : Nat := if id = 1000 then sb else b + id
def sm_ev (b sb : Nat) : sm_V → Value
  | .inl n => .int (Int32.ofInt n)
  | .inr (.inl a) => .ref (sm_ea b sb a)
  | .inr (.inr x) => .long x
def sm_ty : Nat → Nat → FieldType := fun ci => match ci with
  | 0 => tyX0 | 1 => tyX1 | 2 => tyX2 | 3 => tyX3 | 4 => tyX4 | 5 => tyX5 | 6 => tyX6 | 7 => tyX7 | _ => tyX8
def sm_isR (ci k : Nat) : Bool := match sm_ty ci k with
  | .int | .boolean => false
  | _ => true
def sm_fv (b sb : Nat) (w : sm_W) (id ci k : Nat) : Value := if sm_isR ci k = true then va_rf ((wR w id k).map (sm_ea b sb)) else .int (Int32.ofInt (wI w id k))
def sm_E (b sb : Nat) (cA : Nat → ClassId) (w : sm_W) (id : Nat) : va_E :=
  if (wS w id).1 < 9 then .inr ((wS w id).1, (List.range (wS w id).2).map (sm_fv b sb w id (wS w id).1))
  else if (wS w id).1 < 12 then .inl (cA ((wS w id).1 - 9), (wS w id).2, .inl (fun j => Int32.ofInt (wI w id j)))
  else .inl (cA ((wS w id).1 - 9), (wS w id).2, .inr (.inr (.inr (.inr (fun j => (wR w id j).map (sm_ea b sb))))))
def sm_ws (b sb : Nat) (cA : Nat → ClassId) (w : sm_W) : va_W := (List.range w.1).map (fun id => (sm_ea b sb id, sm_E b sb cA w id))
def sm_tys (cA : Nat → ClassId) : List (ClassId × FieldType) := [(cA 0, .int), (cA 1, .boolean), (cA 2, .char), (cA 3, .object RX2), (cA 4, .array .int)]
def sm_Rep (b sb : Nat) (D : va_G) (cA : Nat → ClassId) (w : sm_W) (U : State) (H : Heap) : Prop :=
  w.1 ≤ 1000 ∧ H.size = b + w.1 ∧ va_P D vwCl (sm_ws b sb cA w) H ∧ (∀ id i, sm_r (wI w id i)) ∧ sb < b ∧ (∀ id, w.1 ≤ id → 14 ≤ (wS w id).1) ∧ ∀ L, wS w 1000 = (14, L) → va_X sb L (fun j => Int32.ofInt (wI w 1000 (j : Int))) U H
theorem sm_ea_lt {b sb id : Nat} (h : id < 1000) : sm_ea b sb id = b + id := if_neg (by omega)
theorem sm_ws_get {b sb : Nat} {cA : Nat → ClassId} {w : sm_W} {a : Nat} (h : a < w.1) : (sm_ws b sb cA w)[a]? = some (sm_ea b sb a, sm_E b sb cA w a) := by
  unfold sm_ws
  rw [List.getElem?_map, List.getElem?_range h]
  rfl
theorem sm_ws_inv {b sb : Nat} {cA : Nat → ClassId} {w : sm_W} {a : Nat} {x : Nat × va_E} (h : (sm_ws b sb cA w)[a]? = some x) : a < w.1 ∧ x = (sm_ea b sb a, sm_E b sb cA w a) := by
  have hl : a < w.1 := by
    have := (List.getElem?_eq_some_iff.mp h).1
    simpa [sm_ws] using this
  rw [sm_ws_get hl] at h
  exact ⟨hl, (Option.some.inj h).symm⟩
theorem sm_D {b sb : Nat} {cA : Nat → ClassId} {w : sm_W} (h : w.1 ≤ 1000) : va_D (fun q => b ≤ q) (sm_ws b sb cA w) := by
  refine ⟨fun i j x y hi hj e => ?_, fun k x hk => ?_⟩
  · obtain ⟨h1, rfl⟩ := sm_ws_inv hi
    obtain ⟨h2, rfl⟩ := sm_ws_inv hj
    dsimp only at e
    rw [sm_ea_lt (by omega), sm_ea_lt (by omega)] at e
    omega
  · obtain ⟨h1, rfl⟩ := sm_ws_inv hk
    dsimp only
    rw [sm_ea_lt (by omega)]
    omega
theorem sm_ws_set {b sb : Nat} {cA : Nat → ClassId} {w w' : sm_W} {a : Nat} (h1 : w'.1 = w.1) (h : ∀ id, id ≠ a → sm_E b sb cA w' id = sm_E b sb cA w id) : (sm_ws b sb cA w).set a (sm_ea b sb a, sm_E b sb cA w' a) = sm_ws b sb cA w' := by
  apply List.ext_getElem?
  intro k
  rw [List.getElem?_set]
  by_cases hk : k < w.1
  · rw [sm_ws_get (w := w') (by rw [h1]; exact hk)]
    by_cases e : a = k
    · subst e
      rw [if_pos rfl, if_pos (by simpa [sm_ws] using hk)]
    · rw [if_neg e, sm_ws_get hk, h k (Ne.symm e)]
  · have n1 : (sm_ws b sb cA w')[k]? = none := List.getElem?_eq_none (by simp [sm_ws]; omega)
    have n2 : (sm_ws b sb cA w)[k]? = none := List.getElem?_eq_none (by simp [sm_ws]; omega)
    rw [n1, n2]
    by_cases e : a = k
    · subst e
      rw [if_pos rfl, if_neg (by simpa [sm_ws] using hk)]
    · rw [if_neg e]
theorem sm_E_o {b sb : Nat} {cA : Nat → ClassId} {w : sm_W} {a ci N : Nat} (h : wS w a = (ci, N)) (hc : ci < 9) : sm_E b sb cA w a = .inr (ci, (List.range N).map (sm_fv b sb w a ci)) := by
  unfold sm_E
  rw [h]
  exact if_pos hc
theorem sm_E_i {b sb : Nat} {cA : Nat → ClassId} {w : sm_W} {a kd : Nat} (h : (wS w a).1 = kd) (h1 : 9 ≤ kd) (h2 : kd < 12) : sm_E b sb cA w a = .inl (cA (kd - 9), (wS w a).2, .inl (fun j => Int32.ofInt (wI w a j))) := by
  unfold sm_E
  rw [h, if_neg (by omega), if_pos h2]
theorem sm_E_r {b sb : Nat} {cA : Nat → ClassId} {w : sm_W} {a kd : Nat} (h : (wS w a).1 = kd) (h1 : 12 ≤ kd) : sm_E b sb cA w a = .inl (cA (kd - 9), (wS w a).2, .inr (.inr (.inr (.inr (fun j => (wR w a j).map (sm_ea b sb)))))) := by
  unfold sm_E
  rw [h, if_neg (by omega), if_neg (by omega)]
theorem sm_lt {b sb : Nat} {D : va_G} {cA : Nat → ClassId} {w : sm_W} {U : State} {H : Heap} (h : sm_Rep b sb D cA w U H) {a : Nat} (ha : (wS w a).1 < 14) : a < w.1 := by
  rcases Nat.lt_or_ge a w.1 with h1 | h1
  · exact h1
  · exact absurd (h.2.2.2.2.2.1 a h1) (by omega)
/-- one cell changed -/
theorem sm_put {b sb : Nat} {D : va_G} {cA : Nat → ClassId} {w w' : sm_W} {U : State} {H H1 : Heap} {a : Nat} (hR : sm_Rep b sb D cA w U H) (ha : a < w.1) (h1 : w'.1 = w.1) (hsh : ∀ id, wS w' id = wS w id) (hI : ∀ id i, sm_r (wI w' id i)) (ho : ∀ id, id ≠ a → sm_E b sb cA w' id = sm_E b sb cA w id) (hx : ∀ i, wI w' 1000 i = wI w 1000 i)
    (hat : va_at D vwCl (sm_ea b sb a, sm_E b sb cA w' a) H1) (hz : H1.size = H.size) (oq : ∀ q : Nat, q ≠ sm_ea b sb a → H1[q]? = H[q]?) : sm_Rep b sb D cA w' U H1 := by
  obtain ⟨r1, r2, r3, r4, r5, r6, r7⟩ := hR
  refine ⟨by rw [h1]; exact r1, by rw [hz, h1]; exact r2, ?_, hI, r5, fun id h => by rw [hsh]; exact r6 id (by rw [← h1]; exact h), fun L hL => ?_⟩
  · rw [← sm_ws_set h1 ho]
    exact r3.set (sm_D r1) (sm_ws_get ha) hat oq
  · rw [hsh] at hL
    have := (r7 L hL).kept (H1 := H1) (oq sb (by rw [sm_ea_lt (by omega)]; omega))
    rw [show (fun j : Nat => Int32.ofInt (wI w' 1000 (j : Int))) = (fun j : Nat => Int32.ofInt (wI w 1000 (j : Int))) from funext fun j => by rw [hx]]
    exact this
theorem sm_Rep.moved {b sb : Nat} {D : va_G} {cA : Nat → ClassId} {w : sm_W} {u U : State} {H : Heap} (hvm : u.vm.Alike U.vm) (h : sm_Rep b sb D cA w u H) : sm_Rep b sb D cA w U H := ⟨h.1, h.2.1, h.2.2.1, h.2.2.2.1, h.2.2.2.2.1, h.2.2.2.2.2.1, fun L hL => (h.2.2.2.2.2.2 L hL).moved hvm⟩
/-- a cell made at the end -/
theorem sm_add {b sb : Nat} {D : va_G} {cA : Nat → ClassId} {w w' : sm_W} {U : State} {H H1 : Heap} (hR : sm_Rep b sb D cA w U H) (hn : w.1 < 1000) (h1 : w'.1 = w.1 + 1) (hsh : ∀ id, id ≠ w.1 → wS w' id = wS w id) (hI : ∀ id i, sm_r (wI w' id i)) (ho : ∀ id, id ≠ w.1 → sm_E b sb cA w' id = sm_E b sb cA w id) (hx : ∀ i, wI w' 1000 i = wI w 1000 i)
    (hat : va_at D vwCl (sm_ea b sb w.1, sm_E b sb cA w' w.1) H1) (hz : H1.size = H.size + 1) (oq : ∀ q : Nat, q < H.size → H1[q]? = H[q]?) : sm_Rep b sb D cA w' U H1 := by
  obtain ⟨r1, r2, r3, r4, r5, r6, r7⟩ := hR
  refine ⟨by omega, by omega, ?_, hI, r5, fun id h => by rw [hsh id (by omega)]; exact r6 id (by omega), fun L hL => ?_⟩
  · intro k x hk
    obtain ⟨h2, rfl⟩ := sm_ws_inv hk
    by_cases e : k = w.1
    · subst e
      exact hat
    · rw [ho k e]
      have h3 := r3 k _ (sm_ws_get (by omega))
      exact h3.kept (oq _ h3.lt)
  · rw [hsh 1000 (by omega)] at hL
    have := (r7 L hL).kept (H1 := H1) (oq sb (by omega))
    rw [show (fun j : Nat => Int32.ofInt (wI w' 1000 (j : Int))) = (fun j : Nat => Int32.ofInt (wI w 1000 (j : Int))) from funext fun j => by rw [hx]]
    exact this
/-- locals -/
def sm_L (nL b sb : Nat) (lsA : Array Slot) (ls : List (Option sm_V)) : Prop := lsA.size = nL ∧ ls.length = nL ∧ lv_wf lsA ∧ ∀ (i : Nat) (v : sm_V), ls[i]? = some (some v) → lsA[i]? = some (Slot.val (sm_ev b sb v))
def sm_asc (b sb : Nat) (ls : List (Option sm_V)) : List (Nat × Value) := (List.range ls.length).filterMap (fun i => match ls[i]? with
  | some (some v) => some (i, sm_ev b sb v)
  | _ => none)
theorem sm_asc_mem {b sb : Nat} {ls : List (Option sm_V)} {q : Nat × Value} : q ∈ sm_asc b sb ls ↔ ∃ v, ls[q.1]? = some (some v) ∧ q.2 = sm_ev b sb v := by
  unfold sm_asc
  rw [List.mem_filterMap]
  constructor
  · rintro ⟨i, hi, h⟩
    split at h
    · next v hv =>
      cases h
      exact ⟨v, hv, rfl⟩
    · cases h
  · rintro ⟨v, hv, h2⟩
    refine ⟨q.1, List.mem_range.mpr (List.getElem?_eq_some_iff.mp hv).1, ?_⟩
    rw [hv]
    dsimp only
    rw [← h2]
theorem sm_L.has {nL b sb : Nat} {lsA : Array Slot} {ls : List (Option sm_V)} (h : sm_L nL b sb lsA ls) : lv_has lsA nL (sm_asc b sb ls) := by
  refine ⟨h.1, h.2.2.1, fun q hq => ?_⟩
  obtain ⟨v, h1, h2⟩ := sm_asc_mem.mp hq
  rw [h2]
  exact h.2.2.2 _ _ h1
theorem sm_ev_cat (b sb : Nat) (v : sm_V) : (sm_ev b sb v).category = sm_wd v := by
  rcases v with n | a | x <;> rfl
theorem sm_L.set1 {nL b sb : Nat} {lsA : Array Slot} {ls : List (Option sm_V)} {i : Nat} {v : sm_V} (h : sm_L nL b sb lsA ls) (hnl : sm_nl ls i = true) (hi : i < ls.length) {ls' : Array Slot} (h' : lv_has ls' nL ((i, sm_ev b sb v) :: (sm_asc b sb ls).filter (fun q => !(q.1 == i) && !(q.1 + 1 == i && q.2.category == 2)))) : sm_L nL b sb ls' (ls.set i (some v)) := by
  refine ⟨h'.1, by rw [List.length_set]; exact h.2.1, h'.2.1, fun j u hj => ?_⟩
  rw [List.getElem?_set] at hj
  by_cases e : i = j
  · subst e
    rw [if_pos rfl, if_pos hi] at hj
    cases hj
    exact h'.2.2 (i, _) List.mem_cons_self
  · rw [if_neg e] at hj
    refine h'.2.2 (j, sm_ev b sb u) (List.mem_cons_of_mem _ (List.mem_filter.mpr ⟨sm_asc_mem.mpr ⟨u, hj, rfl⟩, ?_⟩))
    dsimp only
    rw [sm_ev_cat]
    have e1 : (j == i) = false := by simpa using Ne.symm e
    rw [e1]
    by_cases e2 : j + 1 = i
    · subst e2
      have hw : sm_wd u ≠ 2 := by
        intro hw
        rcases u with n | a | x
        · cases hw
        · cases hw
        · simp [sm_nl, hj] at hnl
      simp [hw]
    · simp [e2]
theorem sm_L.set2 {nL b sb : Nat} {lsA : Array Slot} {ls : List (Option sm_V)} {i : Nat} {x : Int64} (h : sm_L nL b sb lsA ls) (hnl : sm_nl ls i = true) (hi : i + 1 < ls.length) {ls' : Array Slot} (h' : lv_has ls' nL ((i, Value.long x) :: (sm_asc b sb ls).filter (fun q => !(q.1 == i) && (!(q.1 == i + 1) && !(q.1 + 1 == i && q.2.category == 2))))) : sm_L nL b sb ls' ((ls.set i (some (.inr (.inr x)))).set (i + 1) none) := by
  refine ⟨h'.1, by rw [List.length_set, List.length_set]; exact h.2.1, h'.2.1, fun j u hj => ?_⟩
  rw [List.getElem?_set, List.getElem?_set] at hj
  by_cases e0 : i + 1 = j
  · subst e0
    rw [if_pos rfl] at hj
    simp only [List.length_set, hi, if_true] at hj
    cases hj
  · rw [if_neg e0] at hj
    by_cases e : i = j
    · subst e
      rw [if_pos rfl, if_pos (by omega)] at hj
      cases hj
      exact h'.2.2 (i, Value.long x) List.mem_cons_self
    · rw [if_neg e] at hj
      refine h'.2.2 (j, sm_ev b sb u) (List.mem_cons_of_mem _ (List.mem_filter.mpr ⟨sm_asc_mem.mpr ⟨u, hj, rfl⟩, ?_⟩))
      dsimp only
      rw [sm_ev_cat]
      have e1 : (j == i) = false := by simpa using Ne.symm e
      have e3 : (j == i + 1) = false := by simpa using Ne.symm e0
      rw [e1, e3]
      by_cases e2 : j + 1 = i
      · subst e2
        have hw : sm_wd u ≠ 2 := by
          intro hw
          rcases u with n | a | x
          · cases hw
          · cases hw
          · simp [sm_nl, hj] at hnl
        simp [hw]
      · simp [e2]
theorem sm_ok_set {ls : List (Option sm_V)} {i : Nat} {v : sm_V} (h : ∀ v, some v ∈ ls → sm_ok v) (hv : sm_ok v) : ∀ u, some u ∈ ls.set i (some v) → sm_ok u := by
  intro u hu
  rcases List.mem_or_eq_of_mem_set hu with h1 | h1
  · exact h u h1
  · cases h1
    exact hv
theorem sm_ok_setN {ls : List (Option sm_V)} {i : Nat} (h : ∀ v, some v ∈ ls → sm_ok v) : ∀ u, some u ∈ ls.set i none → sm_ok u := by
  intro u hu
  rcases List.mem_or_eq_of_mem_set hu with h1 | h1
  · exact h u h1
  · cases h1
theorem sm_ok_at {ls : List (Option sm_V)} {i : Nat} {v : sm_V} (h : ∀ v, some v ∈ ls → sm_ok v) (hi : ls[i]? = some (some v)) : sm_ok v := h v (List.mem_of_getElem? hi)
theorem sm_ok_cons {st : List sm_V} {v : sm_V} (hv : sm_ok v) (h : ∀ v ∈ st, sm_ok v) : ∀ u ∈ v :: st, sm_ok u := by
  intro u hu
  rcases List.mem_cons.mp hu with rfl | h1
  · exact hv
  · exact h u h1
theorem sm_ok_tl {st : List sm_V} {v : sm_V} (h : ∀ u ∈ v :: st, sm_ok u) : ∀ u ∈ st, sm_ok u := fun u hu => h u (List.mem_cons_of_mem _ hu)
theorem sm_ok_hd {st : List sm_V} {v : sm_V} (h : ∀ u ∈ v :: st, sm_ok u) : sm_ok v := h v List.mem_cons_self
theorem sm_wds_map (b sb : Nat) (st : List sm_V) : ((st.map (sm_ev b sb)).map fun v => v.category).sum = sm_wds st := by
  induction st with
  | nil => rfl
  | cons v r ih =>
    rw [List.map_cons, List.map_cons, List.sum_cons, ih, sm_ev_cat]
    rfl
end
section
/-! ONE STEP OF THE SMALL MACHINE IS ONE OF THE MACHINE: by the kit's rows -/
/-- what the tables say that a callee isn't told by its words: the classes of two kinds of arrays, the nest mates' private methods -/
def sm_nest : List (String × Nat × MethodName) := [(RX7, 9, yX0_init), (RX7, 35, yX6_init), (RX7, 42, yX3_init), (RX7, 49, yX4_init), (RX7, 56, yX5_init), (RX2, 52, yX7_isStation), (RX2, 56, yX7_isStretch)]
def sm_AOA (ty : FieldType) (U : State) : Prop := (Cond.arrayOver (.array ty)).before #[] U = true
def sm_Ex (U : State) : Prop := va_AO RX2 U ∧ sm_AOA .int U ∧ ∀ q ∈ sm_nest, va_Nw (.methodLinkNest q.1 q.2.1 q.2.2 RX7) U
theorem sm_AOA.moved {ty : FieldType} {u U : State} (hvm : u.vm.Alike U.vm) (h : sm_AOA ty u) : sm_AOA ty U := over_moved hvm h
theorem sm_Ex.warm {s U : State} (hW : s.WarmedH U.vm) (h : sm_Ex s) : sm_Ex U := ⟨h.1.moved hW.alike, h.2.1.moved hW.alike, fun q hq => va_Nw.warmM hW (h.2.2 q hq)⟩
theorem sm_Ex.same {u U : State} (hv : u.vm = U.vm) (h : sm_Ex u) : sm_Ex U := ⟨h.1.moved (by rw [hv]; exact Vm.Alike.refl _), h.2.1.moved (by rw [hv]; exact Vm.Alike.refl _), fun q hq => (h.2.2 q hq).same rfl hv⟩
section
variable (p : Program) (l : Launch) (e : Env) (R : Room) (s : State) (m : MethodId) (args : Array Value) (below : List Frame) (meth : Method) (c : Code) (Q : State → Prop) (b sb : Nat) (D : va_G) (cA : Nat → ClassId) (H0 : Heap) (nL : Nat)
def sm_Wz (pc : Nat) : sm_K := fun ls st w k q => ∀ (H : Heap) (locs : List Loc) (lsA : Array Slot), sm_Rep b sb D cA w s H → va_S (fun x => b ≤ x) H0 H locs → sm_L nL b sb lsA ls → (∀ v, some v ∈ ls → sm_ok v) → (∀ v ∈ st, sm_ok v) → W p l e R s m args below meth c H locs k q Q (F0 m pc lsA (st.map (sm_ev b sb)))
/-- what holds of a frame: the machine, the code, the tables' words, the room, and what an end gives -/
def sm_Cx (own nm : String) (cc : ByteArray) (z : Nat) (lev : Nat) (P : sm_Par) : Prop :=
  p.tables.exec = Jvm.exec ∧ c.code = cc ∧ c.maxLocals = nL ∧ s.vm.findClass own = some m.cls ∧ (∀ w ∈ sm_tbl, w.before args s = true) ∧ va_K D vwCl (sm_tys cA) s ∧ b ≤ H0.size ∧ R.cells = P.2.1 ∧ R.slots = P.2.2 ∧ lev ≤ R.frames ∧ 40 * lev ≤ R.locals ∧ meth.name = nm ∧ sm_Ex s ∧
  (∀ (pc : Nat) (H : Heap) (locs : List Loc) (lsA : Array Slot) (w : sm_W) (k q : Nat) (n : Int), decode cc pc = .ok (.ireturn, 1) → ¬ z = 0 → (z = 2 → n = 0 ∨ n = 1) → P.1 (some (.inl n)) w → sm_r n → k ≤ P.2.1 → q ≤ P.2.2 → sm_Rep b sb D cA w s H → va_S (fun x => b ≤ x) H0 H locs → W p l e R s m args below meth c H locs k q Q (F0 m pc lsA [.int (Int32.ofInt n)])) ∧
  (∀ (pc : Nat) (H : Heap) (locs : List Loc) (lsA : Array Slot) (w : sm_W) (k q : Nat), decode cc pc = .ok (.return_, 1) → z = 0 → P.1 none w → k ≤ P.2.1 → q ≤ P.2.2 → sm_Rep b sb D cA w s H → va_S (fun x => b ≤ x) H0 H locs → W p l e R s m args below meth c H locs k q Q (F0 m pc lsA []))
end
/-- the step o at pc, to pc' or to where it jumps -/
def sm_Snd (l : Launch) (own nm : String) (cc : ByteArray) (nL : Nat) (z : Nat) (lev : Nat) (pc pc' : Nat) (o : sm_O) : Prop :=
  ∀ (p : Program) (e : Env) (R : Room) (s : State) (m : MethodId) (args : Array Value) (below : List Frame) (meth : Method) (c : Code) (Q : State → Prop) (b sb : Nat) (D : va_G) (cA : Nat → ClassId) (H0 : Heap) (P : sm_Par), sm_Cx p l e R s m args below meth c Q b sb D cA H0 nL own nm cc z lev P →
  ∀ (Nx : sm_K) (J : Nat → sm_K), (∀ ls st w k q, Nx ls st w k q → sm_Wz p l e R s m args below meth c Q b sb D cA H0 nL pc' ls st w k q) → (∀ t ls st w k q, J t ls st w k q → sm_Wz p l e R s m args below meth c Q b sb D cA H0 nL t ls st w k q) →
  ∀ ls st w k q, o P Nx J ls st w k q → sm_Wz p l e R s m args below meth c Q b sb D cA H0 nL pc ls st w k q
section
variable {l : Launch} {own nm : String} {cc : ByteArray} {nL : Nat} {z : Nat} {lev : Nat} {pc : Nat}

theorem sd_iconst {n : Int} (hd : decode cc pc = .ok (.iconst n, 1)) (hr : sm_r n) : sm_Snd l own nm cc nL z lev pc (pc + 1) (oK n) := by
  intro p e R s m args below meth c Q b sb D cA H0 P hC Nx J hN hJ ls st w k q h
  obtain ⟨hx, hb, hml, hown, hts, hK, hbH, hRc, hRs, hRf, hRl, hnm, hEx, hI, hV⟩ := hC
  intro H locs lsA hR hS hL ho hs
  exact lv_iconst hx hb hd rfl (hN _ _ _ _ _ h H locs lsA hR hS hL ho (sm_ok_cons hr hs))

theorem sd_bipush {n : Int} (hd : decode cc pc = .ok (.bipush n, 2)) (hr : sm_r n) (hv : (Int8.ofInt n).toInt32 = Int32.ofInt n) : sm_Snd l own nm cc nL z lev pc (pc + 2) (oK n) := by
  intro p e R s m args below meth c Q b sb D cA H0 P hC Nx J hN hJ ls st w k q h
  obtain ⟨hx, hb, hml, hown, hts, hK, hbH, hRc, hRs, hRf, hRl, hnm, hEx, hI, hV⟩ := hC
  intro H locs lsA hR hS hL ho hs
  exact lv_bipush hx hb hd hv (hN _ _ _ _ _ h H locs lsA hR hS hL ho (sm_ok_cons hr hs))

theorem sd_sipush {n : Int} (hd : decode cc pc = .ok (.sipush n, 3)) (hr : sm_r n) (hv : (Int16.ofInt n).toInt32 = Int32.ofInt n) : sm_Snd l own nm cc nL z lev pc (pc + 3) (oK n) := by
  intro p e R s m args below meth c Q b sb D cA H0 P hC Nx J hN hJ ls st w k q h
  obtain ⟨hx, hb, hml, hown, hts, hK, hbH, hRc, hRs, hRf, hRl, hnm, hEx, hI, hV⟩ := hC
  intro H locs lsA hR hS hL ho hs
  exact lv_sipush hx hb hd hv (hN _ _ _ _ _ h H locs lsA hR hS hL ho (sm_ok_cons hr hs))

theorem sd_lconst {n : Fin 2} {v : Int64} (hd : decode cc pc = .ok (.lconst n, 1)) (hv : Int64.ofNat (n : Nat) = v) : sm_Snd l own nm cc nL z lev pc (pc + 1) (oLK v) := by
  intro p e R s m args below meth c Q b sb D cA H0 P hC Nx J hN hJ ls st w k q h
  obtain ⟨hx, hb, hml, hown, hts, hK, hbH, hRc, hRs, hRf, hRl, hnm, hEx, hI, hV⟩ := hC
  intro H locs lsA hR hS hL ho hs
  exact lv_lconst hx hb hd hv (hN _ _ _ _ _ h H locs lsA hR hS hL ho (sm_ok_cons trivial hs))

theorem sd_iload {i : Nat} (hd : decode cc pc = .ok (.iload i, 2)) : sm_Snd l own nm cc nL z lev pc (pc + 2) (oI i) := by
  intro p e R s m args below meth c Q b sb D cA H0 P hC Nx J hN hJ ls st w k q h
  obtain ⟨hx, hb, hml, hown, hts, hK, hbH, hRc, hRs, hRf, hRl, hnm, hEx, hI, hV⟩ := hC
  dsimp only [oI] at h
  split at h
  · next v hv =>
    intro H locs lsA hR hS hL ho hs
    exact lv_iload hx hb hd (hL.2.2.2 _ _ hv) (hN _ _ _ _ _ h H locs lsA hR hS hL ho (sm_ok_cons (sm_ok_at ho hv) hs))
  · exact h.elim

theorem sd_iload_n {i : Nat} {j : Fin 4} (hd : decode cc pc = .ok (.iload_n j, 1)) (hj : (j : Nat) = i) : sm_Snd l own nm cc nL z lev pc (pc + 1) (oI i) := by
  intro p e R s m args below meth c Q b sb D cA H0 P hC Nx J hN hJ ls st w k q h
  obtain ⟨hx, hb, hml, hown, hts, hK, hbH, hRc, hRs, hRf, hRl, hnm, hEx, hI, hV⟩ := hC
  dsimp only [oI] at h
  split at h
  · next v hv =>
    intro H locs lsA hR hS hL ho hs
    exact lv_iload_n hx hb hd hj (hL.2.2.2 _ _ hv) (hN _ _ _ _ _ h H locs lsA hR hS hL ho (sm_ok_cons (sm_ok_at ho hv) hs))
  · exact h.elim

theorem sd_aload {i : Nat} (hd : decode cc pc = .ok (.aload i, 2)) : sm_Snd l own nm cc nL z lev pc (pc + 2) (oA i) := by
  intro p e R s m args below meth c Q b sb D cA H0 P hC Nx J hN hJ ls st w k q h
  obtain ⟨hx, hb, hml, hown, hts, hK, hbH, hRc, hRs, hRf, hRl, hnm, hEx, hI, hV⟩ := hC
  dsimp only [oA] at h
  split at h
  · next v hv =>
    intro H locs lsA hR hS hL ho hs
    exact lv_aload hx hb hd (hL.2.2.2 _ _ hv) (hN _ _ _ _ _ h H locs lsA hR hS hL ho (sm_ok_cons (sm_ok_at ho hv) hs))
  · exact h.elim

theorem sd_aload_n {i : Nat} {j : Fin 4} (hd : decode cc pc = .ok (.aload_n j, 1)) (hj : (j : Nat) = i) : sm_Snd l own nm cc nL z lev pc (pc + 1) (oA i) := by
  intro p e R s m args below meth c Q b sb D cA H0 P hC Nx J hN hJ ls st w k q h
  obtain ⟨hx, hb, hml, hown, hts, hK, hbH, hRc, hRs, hRf, hRl, hnm, hEx, hI, hV⟩ := hC
  dsimp only [oA] at h
  split at h
  · next v hv =>
    intro H locs lsA hR hS hL ho hs
    exact lv_aload_n hx hb hd hj (hL.2.2.2 _ _ hv) (hN _ _ _ _ _ h H locs lsA hR hS hL ho (sm_ok_cons (sm_ok_at ho hv) hs))
  · exact h.elim

theorem sd_lload {i : Nat} (hd : decode cc pc = .ok (.lload i, 2)) : sm_Snd l own nm cc nL z lev pc (pc + 2) (oJ i) := by
  intro p e R s m args below meth c Q b sb D cA H0 P hC Nx J hN hJ ls st w k q h
  obtain ⟨hx, hb, hml, hown, hts, hK, hbH, hRc, hRs, hRf, hRl, hnm, hEx, hI, hV⟩ := hC
  dsimp only [oJ] at h
  split at h
  · next v hv =>
    intro H locs lsA hR hS hL ho hs
    exact lv_lload hx hb hd (hL.2.2.2 _ _ hv) (hN _ _ _ _ _ h H locs lsA hR hS hL ho (sm_ok_cons (sm_ok_at ho hv) hs))
  · exact h.elim

theorem sd_lload_n {i : Nat} {j : Fin 4} (hd : decode cc pc = .ok (.lload_n j, 1)) (hj : (j : Nat) = i) : sm_Snd l own nm cc nL z lev pc (pc + 1) (oJ i) := by
  intro p e R s m args below meth c Q b sb D cA H0 P hC Nx J hN hJ ls st w k q h
  obtain ⟨hx, hb, hml, hown, hts, hK, hbH, hRc, hRs, hRf, hRl, hnm, hEx, hI, hV⟩ := hC
  dsimp only [oJ] at h
  split at h
  · next v hv =>
    intro H locs lsA hR hS hL ho hs
    exact lv_lload_n hx hb hd hj (hL.2.2.2 _ _ hv) (hN _ _ _ _ _ h H locs lsA hR hS hL ho (sm_ok_cons (sm_ok_at ho hv) hs))
  · exact h.elim

theorem sd_istore {i : Nat} (hd : decode cc pc = .ok (.istore i, 2)) : sm_Snd l own nm cc nL z lev pc (pc + 2) (oIs i) := by
  intro p e R s m args below meth c Q b sb D cA H0 P hC Nx J hN hJ ls st w k q h
  obtain ⟨hx, hb, hml, hown, hts, hK, hbH, hRc, hRs, hRf, hRl, hnm, hEx, hI, hV⟩ := hC
  dsimp only [oIs] at h
  split at h
  · next v st =>
    obtain ⟨h1, h2, h⟩ := h
    intro H locs lsA hR hS hL ho hs
    refine lv_istore hx hb hd hL.has (by rw [← hL.2.1]; exact h1) rfl fun ls' h' => ?_
    exact hN _ _ _ _ _ h H locs ls' hR hS (hL.set1 h2 h1 h') (sm_ok_set ho (sm_ok_hd hs)) (sm_ok_tl hs)
  · exact h.elim

theorem sd_istore_n {i : Nat} {j : Fin 4} (hd : decode cc pc = .ok (.istore_n j, 1)) (hj : (j : Nat) = i) : sm_Snd l own nm cc nL z lev pc (pc + 1) (oIs i) := by
  intro p e R s m args below meth c Q b sb D cA H0 P hC Nx J hN hJ ls st w k q h
  obtain ⟨hx, hb, hml, hown, hts, hK, hbH, hRc, hRs, hRf, hRl, hnm, hEx, hI, hV⟩ := hC
  dsimp only [oIs] at h
  split at h
  · next v st =>
    obtain ⟨h1, h2, h⟩ := h
    intro H locs lsA hR hS hL ho hs
    refine lv_istore_n hx hb hd hj hL.has (by rw [← hL.2.1]; exact h1) rfl fun ls' h' => ?_
    exact hN _ _ _ _ _ h H locs ls' hR hS (hL.set1 h2 h1 h') (sm_ok_set ho (sm_ok_hd hs)) (sm_ok_tl hs)
  · exact h.elim

theorem sd_astore {i : Nat} (hd : decode cc pc = .ok (.astore i, 2)) : sm_Snd l own nm cc nL z lev pc (pc + 2) (oAs i) := by
  intro p e R s m args below meth c Q b sb D cA H0 P hC Nx J hN hJ ls st w k q h
  obtain ⟨hx, hb, hml, hown, hts, hK, hbH, hRc, hRs, hRf, hRl, hnm, hEx, hI, hV⟩ := hC
  dsimp only [oAs] at h
  split at h
  · next v st =>
    obtain ⟨h1, h2, h⟩ := h
    intro H locs lsA hR hS hL ho hs
    refine lv_astore hx hb hd hL.has (by rw [← hL.2.1]; exact h1) rfl fun ls' h' => ?_
    exact hN _ _ _ _ _ h H locs ls' hR hS (hL.set1 h2 h1 h') (sm_ok_set ho (sm_ok_hd hs)) (sm_ok_tl hs)
  · exact h.elim

theorem sd_astore_n {i : Nat} {j : Fin 4} (hd : decode cc pc = .ok (.astore_n j, 1)) (hj : (j : Nat) = i) : sm_Snd l own nm cc nL z lev pc (pc + 1) (oAs i) := by
  intro p e R s m args below meth c Q b sb D cA H0 P hC Nx J hN hJ ls st w k q h
  obtain ⟨hx, hb, hml, hown, hts, hK, hbH, hRc, hRs, hRf, hRl, hnm, hEx, hI, hV⟩ := hC
  dsimp only [oAs] at h
  split at h
  · next v st =>
    obtain ⟨h1, h2, h⟩ := h
    intro H locs lsA hR hS hL ho hs
    refine lv_astore_n hx hb hd hj hL.has (by rw [← hL.2.1]; exact h1) rfl fun ls' h' => ?_
    exact hN _ _ _ _ _ h H locs ls' hR hS (hL.set1 h2 h1 h') (sm_ok_set ho (sm_ok_hd hs)) (sm_ok_tl hs)
  · exact h.elim

theorem sd_lstore {i : Nat} (hd : decode cc pc = .ok (.lstore i, 2)) : sm_Snd l own nm cc nL z lev pc (pc + 2) (oJs i) := by
  intro p e R s m args below meth c Q b sb D cA H0 P hC Nx J hN hJ ls st w k q h
  obtain ⟨hx, hb, hml, hown, hts, hK, hbH, hRc, hRs, hRf, hRl, hnm, hEx, hI, hV⟩ := hC
  dsimp only [oJs] at h
  split at h
  · next v st =>
    obtain ⟨h1, h2, h⟩ := h
    intro H locs lsA hR hS hL ho hs
    refine lv_lstore hx hb hd hL.has (by rw [← hL.2.1]; exact h1) rfl fun ls' h' => ?_
    exact hN _ _ _ _ _ h H locs ls' hR hS (hL.set2 h2 h1 h') (sm_ok_setN (sm_ok_set ho (sm_ok_hd hs))) (sm_ok_tl hs)
  · exact h.elim

theorem sd_lstore_n {i : Nat} {j : Fin 4} (hd : decode cc pc = .ok (.lstore_n j, 1)) (hj : (j : Nat) = i) : sm_Snd l own nm cc nL z lev pc (pc + 1) (oJs i) := by
  intro p e R s m args below meth c Q b sb D cA H0 P hC Nx J hN hJ ls st w k q h
  obtain ⟨hx, hb, hml, hown, hts, hK, hbH, hRc, hRs, hRf, hRl, hnm, hEx, hI, hV⟩ := hC
  dsimp only [oJs] at h
  split at h
  · next v st =>
    obtain ⟨h1, h2, h⟩ := h
    intro H locs lsA hR hS hL ho hs
    refine lv_lstore_n hx hb hd hj hL.has (by rw [← hL.2.1]; exact h1) rfl fun ls' h' => ?_
    exact hN _ _ _ _ _ h H locs ls' hR hS (hL.set2 h2 h1 h') (sm_ok_setN (sm_ok_set ho (sm_ok_hd hs))) (sm_ok_tl hs)
  · exact h.elim

theorem sd_iinc {i : Nat} {n : Int} (hd : decode cc pc = .ok (.iinc i n, 3)) : sm_Snd l own nm cc nL z lev pc (pc + 3) (oInc i n) := by
  intro p e R s m args below meth c Q b sb D cA H0 P hC Nx J hN hJ ls st w k q h
  obtain ⟨hx, hb, hml, hown, hts, hK, hbH, hRc, hRs, hRf, hRl, hnm, hEx, hI, hV⟩ := hC
  dsimp only [oInc] at h
  split at h
  · next v hv =>
    obtain ⟨h1, h2, h3, h⟩ := h
    intro H locs lsA hR hS hL ho hs
    have hm : (i, Value.int (Int32.ofInt v)) ∈ sm_asc b sb ls := sm_asc_mem.mpr ⟨.inl v, hv, rfl⟩
    obtain ⟨kk, hkk⟩ := List.getElem?_of_mem hm
    refine lv_iinc hx hb hd hL.has hkk (i3_add v n) (by rw [← hL.2.1]; exact h1) rfl fun ls' h' => ?_
    exact hN _ _ _ _ _ h H locs ls' hR hS (hL.set1 (v := .inl (v + n)) h2 h1 h') (sm_ok_set ho h3) hs
  · exact h.elim

theorem sd_iadd (hd : decode cc pc = .ok (.iadd, 1)) : sm_Snd l own nm cc nL z lev pc (pc + 1) (oAdd) := by
  intro p e R s m args below meth c Q b sb D cA H0 P hC Nx J hN hJ ls st w k q h
  obtain ⟨hx, hb, hml, hown, hts, hK, hbH, hRc, hRs, hRf, hRl, hnm, hEx, hI, hV⟩ := hC
  dsimp only [oAdd] at h
  split at h
  · next y x st =>
    obtain ⟨h1, h⟩ := h
    intro H locs lsA hR hS hL ho hs
    have hy : sm_r y := sm_ok_hd hs
    have hxx : sm_r x := sm_ok_hd (sm_ok_tl hs)
    have k := hN _ _ _ _ _ h H locs lsA hR hS hL ho (sm_ok_cons h1 (sm_ok_tl (sm_ok_tl hs)))
    refine lv_iadd hx hb hd ?_
    rw [i3_add]
    exact k
  · exact h.elim

theorem sd_isub (hd : decode cc pc = .ok (.isub, 1)) : sm_Snd l own nm cc nL z lev pc (pc + 1) (oSub) := by
  intro p e R s m args below meth c Q b sb D cA H0 P hC Nx J hN hJ ls st w k q h
  obtain ⟨hx, hb, hml, hown, hts, hK, hbH, hRc, hRs, hRf, hRl, hnm, hEx, hI, hV⟩ := hC
  dsimp only [oSub] at h
  split at h
  · next y x st =>
    obtain ⟨h1, h⟩ := h
    intro H locs lsA hR hS hL ho hs
    have hy : sm_r y := sm_ok_hd hs
    have hxx : sm_r x := sm_ok_hd (sm_ok_tl hs)
    have k := hN _ _ _ _ _ h H locs lsA hR hS hL ho (sm_ok_cons h1 (sm_ok_tl (sm_ok_tl hs)))
    refine lv_isub hx hb hd ?_
    rw [i3_sub]
    exact k
  · exact h.elim

theorem sd_imul (hd : decode cc pc = .ok (.imul, 1)) : sm_Snd l own nm cc nL z lev pc (pc + 1) (oMul) := by
  intro p e R s m args below meth c Q b sb D cA H0 P hC Nx J hN hJ ls st w k q h
  obtain ⟨hx, hb, hml, hown, hts, hK, hbH, hRc, hRs, hRf, hRl, hnm, hEx, hI, hV⟩ := hC
  dsimp only [oMul] at h
  split at h
  · next y x st =>
    obtain ⟨h1, h⟩ := h
    intro H locs lsA hR hS hL ho hs
    have hy : sm_r y := sm_ok_hd hs
    have hxx : sm_r x := sm_ok_hd (sm_ok_tl hs)
    have k := hN _ _ _ _ _ h H locs lsA hR hS hL ho (sm_ok_cons h1 (sm_ok_tl (sm_ok_tl hs)))
    refine lv_imul hx hb hd ?_
    rw [i3_mul]
    exact k
  · exact h.elim

theorem sd_idiv (hd : decode cc pc = .ok (.idiv, 1)) : sm_Snd l own nm cc nL z lev pc (pc + 1) (oDiv) := by
  intro p e R s m args below meth c Q b sb D cA H0 P hC Nx J hN hJ ls st w k q h
  obtain ⟨hx, hb, hml, hown, hts, hK, hbH, hRc, hRs, hRf, hRl, hnm, hEx, hI, hV⟩ := hC
  dsimp only [oDiv] at h
  split at h
  · next y x st =>
    obtain ⟨h1, h2, h⟩ := h
    intro H locs lsA hR hS hL ho hs
    have hy : sm_r y := sm_ok_hd hs
    have hxx : sm_r x := sm_ok_hd (sm_ok_tl hs)
    have hr : sm_r (x / y) := ⟨by have := Int.ediv_nonneg h1 (Int.le_of_lt h2); omega, by have := Int.ediv_le_self y h1; have := hxx.2; omega⟩
    have k := hN _ _ _ _ _ h H locs lsA hR hS hL ho (sm_ok_cons hr (sm_ok_tl (sm_ok_tl hs)))
    refine lv_idiv hx hb hd (fun e => by rw [i3_z, i3_eq hy i3_0] at e; omega) ?_
    rw [i3_div h1 h2 hxx hy]
    exact k
  · exact h.elim

theorem sd_irem (hd : decode cc pc = .ok (.irem, 1)) : sm_Snd l own nm cc nL z lev pc (pc + 1) (oRem) := by
  intro p e R s m args below meth c Q b sb D cA H0 P hC Nx J hN hJ ls st w k q h
  obtain ⟨hx, hb, hml, hown, hts, hK, hbH, hRc, hRs, hRf, hRl, hnm, hEx, hI, hV⟩ := hC
  dsimp only [oRem] at h
  split at h
  · next y x st =>
    obtain ⟨h1, h2, h⟩ := h
    intro H locs lsA hR hS hL ho hs
    have hy : sm_r y := sm_ok_hd hs
    have hxx : sm_r x := sm_ok_hd (sm_ok_tl hs)
    have hr : sm_r (x % y) := ⟨by have := Int.emod_nonneg x (show y ≠ 0 by omega); omega, by have := Int.emod_lt_of_pos x h2; have := hy.2; omega⟩
    have k := hN _ _ _ _ _ h H locs lsA hR hS hL ho (sm_ok_cons hr (sm_ok_tl (sm_ok_tl hs)))
    refine lv_irem hx hb hd (fun e => by rw [i3_z, i3_eq hy i3_0] at e; omega) ?_
    rw [i3_rem h1 h2 hxx hy]
    exact k
  · exact h.elim

theorem sd_ineg (hd : decode cc pc = .ok (.ineg, 1)) : sm_Snd l own nm cc nL z lev pc (pc + 1) (oNeg) := by
  intro p e R s m args below meth c Q b sb D cA H0 P hC Nx J hN hJ ls st w k q h
  obtain ⟨hx, hb, hml, hown, hts, hK, hbH, hRc, hRs, hRf, hRl, hnm, hEx, hI, hV⟩ := hC
  dsimp only [oNeg] at h
  split at h
  · next x st =>
    obtain ⟨h1, h⟩ := h
    intro H locs lsA hR hS hL ho hs
    have k := hN _ _ _ _ _ h H locs lsA hR hS hL ho (sm_ok_cons h1 (sm_ok_tl hs))
    refine lv_ineg hx hb hd ?_
    rw [show -Int32.ofInt x = Int32.ofInt (-x) from (Int32.ofInt_neg x).symm]
    exact k
  · exact h.elim

theorem sd_i2c (hd : decode cc pc = .ok (.i2c, 1)) : sm_Snd l own nm cc nL z lev pc (pc + 1) (oI2c) := by
  intro p e R s m args below meth c Q b sb D cA H0 P hC Nx J hN hJ ls st w k q h
  obtain ⟨hx, hb, hml, hown, hts, hK, hbH, hRc, hRs, hRf, hRl, hnm, hEx, hI, hV⟩ := hC
  dsimp only [oI2c] at h
  split at h
  · next x st =>
    obtain ⟨h1, h2, h⟩ := h
    intro H locs lsA hR hS hL ho hs
    refine lv_i2c (v := Int32.ofInt x) hx hb hd ?_ (hN _ _ _ _ _ h H locs lsA hR hS hL ho hs)
    rw [i3_n h1, pk_char, pk_tn (by omega), Nat.mod_eq_of_lt (by omega)]
  · exact h.elim

theorem sd_i2l (hd : decode cc pc = .ok (.i2l, 1)) : sm_Snd l own nm cc nL z lev pc (pc + 1) (oI2l) := by
  intro p e R s m args below meth c Q b sb D cA H0 P hC Nx J hN hJ ls st w k q h
  obtain ⟨hx, hb, hml, hown, hts, hK, hbH, hRc, hRs, hRf, hRl, hnm, hEx, hI, hV⟩ := hC
  dsimp only [oI2l] at h
  split at h
  · next x st =>
    intro H locs lsA hR hS hL ho hs
    exact lv_i2l hx hb hd rfl (hN _ _ _ _ _ h H locs lsA hR hS hL ho (sm_ok_cons trivial (sm_ok_tl hs)))
  · exact h.elim

theorem sd_l2i (hd : decode cc pc = .ok (.l2i, 1)) : sm_Snd l own nm cc nL z lev pc (pc + 1) (oL2i) := by
  intro p e R s m args below meth c Q b sb D cA H0 P hC Nx J hN hJ ls st w k q h
  obtain ⟨hx, hb, hml, hown, hts, hK, hbH, hRc, hRs, hRf, hRl, hnm, hEx, hI, hV⟩ := hC
  dsimp only [oL2i] at h
  split at h
  · next x st =>
    intro H locs lsA hR hS hL ho hs
    exact lv_l2i hx hb hd (i3_self _).symm (hN _ _ _ _ _ h H locs lsA hR hS hL ho (sm_ok_cons (i3_rng _) (sm_ok_tl hs)))
  · exact h.elim

theorem sd_land (hd : decode cc pc = .ok (.land, 1)) : sm_Snd l own nm cc nL z lev pc (pc + 1) (oLand) := by
  intro p e R s m args below meth c Q b sb D cA H0 P hC Nx J hN hJ ls st w k q h
  obtain ⟨hx, hb, hml, hown, hts, hK, hbH, hRc, hRs, hRf, hRl, hnm, hEx, hI, hV⟩ := hC
  dsimp only [oLand] at h
  split at h
  · next y x st =>
    intro H locs lsA hR hS hL ho hs
    exact lv_land hx hb hd (hN _ _ _ _ _ h H locs lsA hR hS hL ho (sm_ok_cons trivial (sm_ok_tl (sm_ok_tl hs))))
  · exact h.elim

theorem sd_lor (hd : decode cc pc = .ok (.lor, 1)) : sm_Snd l own nm cc nL z lev pc (pc + 1) (oLor) := by
  intro p e R s m args below meth c Q b sb D cA H0 P hC Nx J hN hJ ls st w k q h
  obtain ⟨hx, hb, hml, hown, hts, hK, hbH, hRc, hRs, hRf, hRl, hnm, hEx, hI, hV⟩ := hC
  dsimp only [oLor] at h
  split at h
  · next y x st =>
    intro H locs lsA hR hS hL ho hs
    exact lv_lor hx hb hd (hN _ _ _ _ _ h H locs lsA hR hS hL ho (sm_ok_cons trivial (sm_ok_tl (sm_ok_tl hs))))
  · exact h.elim

theorem sd_lshl (hd : decode cc pc = .ok (.lshl, 1)) : sm_Snd l own nm cc nL z lev pc (pc + 1) (oLshl) := by
  intro p e R s m args below meth c Q b sb D cA H0 P hC Nx J hN hJ ls st w k q h
  obtain ⟨hx, hb, hml, hown, hts, hK, hbH, hRc, hRs, hRf, hRl, hnm, hEx, hI, hV⟩ := hC
  dsimp only [oLshl] at h
  split at h
  · next y x st =>
    intro H locs lsA hR hS hL ho hs
    exact lv_lshl hx hb hd rfl (hN _ _ _ _ _ h H locs lsA hR hS hL ho (sm_ok_cons trivial (sm_ok_tl (sm_ok_tl hs))))
  · exact h.elim

theorem sd_lshr (hd : decode cc pc = .ok (.lshr, 1)) : sm_Snd l own nm cc nL z lev pc (pc + 1) (oLshr) := by
  intro p e R s m args below meth c Q b sb D cA H0 P hC Nx J hN hJ ls st w k q h
  obtain ⟨hx, hb, hml, hown, hts, hK, hbH, hRc, hRs, hRf, hRl, hnm, hEx, hI, hV⟩ := hC
  dsimp only [oLshr] at h
  split at h
  · next y x st =>
    intro H locs lsA hR hS hL ho hs
    exact lv_lshr hx hb hd rfl (hN _ _ _ _ _ h H locs lsA hR hS hL ho (sm_ok_cons trivial (sm_ok_tl (sm_ok_tl hs))))
  · exact h.elim

theorem sd_lushr (hd : decode cc pc = .ok (.lushr, 1)) : sm_Snd l own nm cc nL z lev pc (pc + 1) (oLushr) := by
  intro p e R s m args below meth c Q b sb D cA H0 P hC Nx J hN hJ ls st w k q h
  obtain ⟨hx, hb, hml, hown, hts, hK, hbH, hRc, hRs, hRf, hRl, hnm, hEx, hI, hV⟩ := hC
  dsimp only [oLushr] at h
  split at h
  · next y x st =>
    intro H locs lsA hR hS hL ho hs
    exact lv_lushr hx hb hd rfl (hN _ _ _ _ _ h H locs lsA hR hS hL ho (sm_ok_cons trivial (sm_ok_tl (sm_ok_tl hs))))
  · exact h.elim

theorem sd_lcmp (hd : decode cc pc = .ok (.lcmp, 1)) : sm_Snd l own nm cc nL z lev pc (pc + 1) (oLcmp) := by
  intro p e R s m args below meth c Q b sb D cA H0 P hC Nx J hN hJ ls st w k q h
  obtain ⟨hx, hb, hml, hown, hts, hK, hbH, hRc, hRs, hRf, hRl, hnm, hEx, hI, hV⟩ := hC
  dsimp only [oLcmp] at h
  split at h
  · next y x st =>
    intro H locs lsA hR hS hL ho hs
    have k := hN _ _ _ _ _ h H locs lsA hR hS hL ho (sm_ok_cons (i3_rng _) (sm_ok_tl (sm_ok_tl hs)))
    refine W.lcmp hx hb hd ?_
    rw [List.map_cons] at k
    dsimp only [sm_ev] at k
    rw [i3_self] at k
    exact k
  · exact h.elim

theorem sd_dup (hd : decode cc pc = .ok (.dup, 1)) : sm_Snd l own nm cc nL z lev pc (pc + 1) (oDup) := by
  intro p e R s m args below meth c Q b sb D cA H0 P hC Nx J hN hJ ls st w k q h
  obtain ⟨hx, hb, hml, hown, hts, hK, hbH, hRc, hRs, hRf, hRl, hnm, hEx, hI, hV⟩ := hC
  dsimp only [oDup] at h
  split at h
  · next v st =>
    obtain ⟨h1, h⟩ := h
    intro H locs lsA hR hS hL ho hs
    exact lv_dup hx hb hd (by rw [sm_ev_cat, h1]) (hN _ _ _ _ _ h H locs lsA hR hS hL ho (sm_ok_cons (sm_ok_hd hs) hs))
  · exact h.elim

theorem sd_dup2 (hd : decode cc pc = .ok (.dup2, 1)) : sm_Snd l own nm cc nL z lev pc (pc + 1) (oDup2) := by
  intro p e R s m args below meth c Q b sb D cA H0 P hC Nx J hN hJ ls st w k q h
  obtain ⟨hx, hb, hml, hown, hts, hK, hbH, hRc, hRs, hRf, hRl, hnm, hEx, hI, hV⟩ := hC
  dsimp only [oDup2] at h
  split at h
  · next v u st =>
    obtain ⟨h1, h2, h⟩ := h
    intro H locs lsA hR hS hL ho hs
    exact lv_dup2_11 hx hb hd (by rw [sm_ev_cat, h1]) (by rw [sm_ev_cat, h2]) (hN _ _ _ _ _ h H locs lsA hR hS hL ho (sm_ok_cons (sm_ok_hd hs) (sm_ok_cons (sm_ok_hd (sm_ok_tl hs)) hs)))
  · exact h.elim

theorem sd_pop (hd : decode cc pc = .ok (.pop, 1)) : sm_Snd l own nm cc nL z lev pc (pc + 1) (oPop) := by
  intro p e R s m args below meth c Q b sb D cA H0 P hC Nx J hN hJ ls st w k q h
  obtain ⟨hx, hb, hml, hown, hts, hK, hbH, hRc, hRs, hRf, hRl, hnm, hEx, hI, hV⟩ := hC
  dsimp only [oPop] at h
  split at h
  · next v st =>
    obtain ⟨h1, h⟩ := h
    intro H locs lsA hR hS hL ho hs
    exact lv_pop hx hb hd (by rw [sm_ev_cat, h1]) (hN _ _ _ _ _ h H locs lsA hR hS hL ho (sm_ok_tl hs))
  · exact h.elim

theorem sd_goto {off : Int} {t : Nat} {x : Nat} (hd : decode cc pc = .ok (.goto off, 3)) (ht : (pc : Int) + off = (t : Int)) : sm_Snd l own nm cc nL z lev pc (x) (oGo t) := by
  intro p e R s m args below meth c Q b sb D cA H0 P hC Nx J hN hJ ls st w k q h
  obtain ⟨hx, hb, hml, hown, hts, hK, hbH, hRc, hRs, hRf, hRl, hnm, hEx, hI, hV⟩ := hC
  intro H locs lsA hR hS hL ho hs
  exact lv_goto hx hb hd ht (hJ _ _ _ _ _ _ h H locs lsA hR hS hL ho hs)

theorem sd_fall {x : Nat} : sm_Snd l own nm cc nL z lev pc (x) (oGo pc) := by
  intro p e R s m args below meth c Q b sb D cA H0 P hC Nx J hN hJ ls st w k q h
  obtain ⟨hx, hb, hml, hown, hts, hK, hbH, hRc, hRs, hRf, hRl, hnm, hEx, hI, hV⟩ := hC
  exact hJ _ _ _ _ _ _ h

theorem sd_eq {off : Int} {t : Nat} (hd : decode cc pc = .ok (.if_icmp .eq off, 3)) (ht : (pc : Int) + off = (t : Int)) : sm_Snd l own nm cc nL z lev pc (pc + 3) (oEq t) := by
  intro p e R s m args below meth c Q b sb D cA H0 P hC Nx J hN hJ ls st w k q h
  obtain ⟨hx, hb, hml, hown, hts, hK, hbH, hRc, hRs, hRf, hRl, hnm, hEx, hI, hV⟩ := hC
  dsimp only [oEq] at h
  split at h
  · next y x st =>
    intro H locs lsA hR hS hL ho hs
    have hy : sm_r y := sm_ok_hd hs
    have hxx : sm_r x := sm_ok_hd (sm_ok_tl hs)
    exact lv_icmp_eq hx hb hd ht (fun e0 => hJ _ _ _ _ _ _ (h.1 ((i3_eq hxx hy).mp e0)) H locs lsA hR hS hL ho (sm_ok_tl (sm_ok_tl hs))) (fun e0 => hN _ _ _ _ _ (h.2 (fun e1 => e0 ((i3_eq hxx hy).mpr e1))) H locs lsA hR hS hL ho (sm_ok_tl (sm_ok_tl hs)))
  · exact h.elim

theorem sd_eq0 {off : Int} {t : Nat} (hd : decode cc pc = .ok (.ifCond .eq off, 3)) (ht : (pc : Int) + off = (t : Int)) : sm_Snd l own nm cc nL z lev pc (pc + 3) (oEq0 t) := by
  intro p e R s m args below meth c Q b sb D cA H0 P hC Nx J hN hJ ls st w k q h
  obtain ⟨hx, hb, hml, hown, hts, hK, hbH, hRc, hRs, hRf, hRl, hnm, hEx, hI, hV⟩ := hC
  dsimp only [oEq0] at h
  split at h
  · next x st =>
    intro H locs lsA hR hS hL ho hs
    have hxx : sm_r x := sm_ok_hd hs
    have hy := i3_0
    exact lv_if_eq hx hb hd ht (fun e0 => hJ _ _ _ _ _ _ (h.1 ((i3_eq hxx hy).mp e0)) H locs lsA hR hS hL ho (sm_ok_tl hs)) (fun e0 => hN _ _ _ _ _ (h.2 (fun e1 => e0 ((i3_eq hxx hy).mpr e1))) H locs lsA hR hS hL ho (sm_ok_tl hs))
  · exact h.elim

theorem sd_ne {off : Int} {t : Nat} (hd : decode cc pc = .ok (.if_icmp .ne off, 3)) (ht : (pc : Int) + off = (t : Int)) : sm_Snd l own nm cc nL z lev pc (pc + 3) (oNe t) := by
  intro p e R s m args below meth c Q b sb D cA H0 P hC Nx J hN hJ ls st w k q h
  obtain ⟨hx, hb, hml, hown, hts, hK, hbH, hRc, hRs, hRf, hRl, hnm, hEx, hI, hV⟩ := hC
  dsimp only [oNe] at h
  split at h
  · next y x st =>
    intro H locs lsA hR hS hL ho hs
    have hy : sm_r y := sm_ok_hd hs
    have hxx : sm_r x := sm_ok_hd (sm_ok_tl hs)
    exact lv_icmp_ne hx hb hd ht (fun e0 => hJ _ _ _ _ _ _ (h.1 (fun e1 => e0 ((i3_eq hxx hy).mpr e1))) H locs lsA hR hS hL ho (sm_ok_tl (sm_ok_tl hs))) (fun e0 => hN _ _ _ _ _ (h.2 ((i3_eq hxx hy).mp e0)) H locs lsA hR hS hL ho (sm_ok_tl (sm_ok_tl hs)))
  · exact h.elim

theorem sd_ne0 {off : Int} {t : Nat} (hd : decode cc pc = .ok (.ifCond .ne off, 3)) (ht : (pc : Int) + off = (t : Int)) : sm_Snd l own nm cc nL z lev pc (pc + 3) (oNe0 t) := by
  intro p e R s m args below meth c Q b sb D cA H0 P hC Nx J hN hJ ls st w k q h
  obtain ⟨hx, hb, hml, hown, hts, hK, hbH, hRc, hRs, hRf, hRl, hnm, hEx, hI, hV⟩ := hC
  dsimp only [oNe0] at h
  split at h
  · next x st =>
    intro H locs lsA hR hS hL ho hs
    have hxx : sm_r x := sm_ok_hd hs
    have hy := i3_0
    exact lv_if_ne hx hb hd ht (fun e0 => hJ _ _ _ _ _ _ (h.1 (fun e1 => e0 ((i3_eq hxx hy).mpr e1))) H locs lsA hR hS hL ho (sm_ok_tl hs)) (fun e0 => hN _ _ _ _ _ (h.2 ((i3_eq hxx hy).mp e0)) H locs lsA hR hS hL ho (sm_ok_tl hs))
  · exact h.elim

theorem sd_lt {off : Int} {t : Nat} (hd : decode cc pc = .ok (.if_icmp .lt off, 3)) (ht : (pc : Int) + off = (t : Int)) : sm_Snd l own nm cc nL z lev pc (pc + 3) (oLt t) := by
  intro p e R s m args below meth c Q b sb D cA H0 P hC Nx J hN hJ ls st w k q h
  obtain ⟨hx, hb, hml, hown, hts, hK, hbH, hRc, hRs, hRf, hRl, hnm, hEx, hI, hV⟩ := hC
  dsimp only [oLt] at h
  split at h
  · next y x st =>
    intro H locs lsA hR hS hL ho hs
    have hy : sm_r y := sm_ok_hd hs
    have hxx : sm_r x := sm_ok_hd (sm_ok_tl hs)
    exact lv_icmp_lt hx hb hd ht (fun e0 => hJ _ _ _ _ _ _ (h.1 ((i3_lt hxx hy).mp e0)) H locs lsA hR hS hL ho (sm_ok_tl (sm_ok_tl hs))) (fun e0 => hN _ _ _ _ _ (h.2 ((i3_le hy hxx).mp (Int32.not_lt.mp e0))) H locs lsA hR hS hL ho (sm_ok_tl (sm_ok_tl hs)))
  · exact h.elim

theorem sd_lt0 {off : Int} {t : Nat} (hd : decode cc pc = .ok (.ifCond .lt off, 3)) (ht : (pc : Int) + off = (t : Int)) : sm_Snd l own nm cc nL z lev pc (pc + 3) (oLt0 t) := by
  intro p e R s m args below meth c Q b sb D cA H0 P hC Nx J hN hJ ls st w k q h
  obtain ⟨hx, hb, hml, hown, hts, hK, hbH, hRc, hRs, hRf, hRl, hnm, hEx, hI, hV⟩ := hC
  dsimp only [oLt0] at h
  split at h
  · next x st =>
    intro H locs lsA hR hS hL ho hs
    have hxx : sm_r x := sm_ok_hd hs
    have hy := i3_0
    exact lv_if_lt hx hb hd ht (fun e0 => hJ _ _ _ _ _ _ (h.1 ((i3_lt hxx hy).mp e0)) H locs lsA hR hS hL ho (sm_ok_tl hs)) (fun e0 => hN _ _ _ _ _ (h.2 ((i3_le hy hxx).mp (Int32.not_lt.mp e0))) H locs lsA hR hS hL ho (sm_ok_tl hs))
  · exact h.elim

theorem sd_ge {off : Int} {t : Nat} (hd : decode cc pc = .ok (.if_icmp .ge off, 3)) (ht : (pc : Int) + off = (t : Int)) : sm_Snd l own nm cc nL z lev pc (pc + 3) (oGe t) := by
  intro p e R s m args below meth c Q b sb D cA H0 P hC Nx J hN hJ ls st w k q h
  obtain ⟨hx, hb, hml, hown, hts, hK, hbH, hRc, hRs, hRf, hRl, hnm, hEx, hI, hV⟩ := hC
  dsimp only [oGe] at h
  split at h
  · next y x st =>
    intro H locs lsA hR hS hL ho hs
    have hy : sm_r y := sm_ok_hd hs
    have hxx : sm_r x := sm_ok_hd (sm_ok_tl hs)
    exact lv_icmp_ge hx hb hd ht (fun e0 => hJ _ _ _ _ _ _ (h.1 ((i3_le hy hxx).mp e0)) H locs lsA hR hS hL ho (sm_ok_tl (sm_ok_tl hs))) (fun e0 => hN _ _ _ _ _ (h.2 ((i3_lt hxx hy).mp (Int32.not_le.mp e0))) H locs lsA hR hS hL ho (sm_ok_tl (sm_ok_tl hs)))
  · exact h.elim

theorem sd_ge0 {off : Int} {t : Nat} (hd : decode cc pc = .ok (.ifCond .ge off, 3)) (ht : (pc : Int) + off = (t : Int)) : sm_Snd l own nm cc nL z lev pc (pc + 3) (oGe0 t) := by
  intro p e R s m args below meth c Q b sb D cA H0 P hC Nx J hN hJ ls st w k q h
  obtain ⟨hx, hb, hml, hown, hts, hK, hbH, hRc, hRs, hRf, hRl, hnm, hEx, hI, hV⟩ := hC
  dsimp only [oGe0] at h
  split at h
  · next x st =>
    intro H locs lsA hR hS hL ho hs
    have hxx : sm_r x := sm_ok_hd hs
    have hy := i3_0
    exact lv_if_ge hx hb hd ht (fun e0 => hJ _ _ _ _ _ _ (h.1 ((i3_le hy hxx).mp e0)) H locs lsA hR hS hL ho (sm_ok_tl hs)) (fun e0 => hN _ _ _ _ _ (h.2 ((i3_lt hxx hy).mp (Int32.not_le.mp e0))) H locs lsA hR hS hL ho (sm_ok_tl hs))
  · exact h.elim

theorem sd_gt {off : Int} {t : Nat} (hd : decode cc pc = .ok (.if_icmp .gt off, 3)) (ht : (pc : Int) + off = (t : Int)) : sm_Snd l own nm cc nL z lev pc (pc + 3) (oGt t) := by
  intro p e R s m args below meth c Q b sb D cA H0 P hC Nx J hN hJ ls st w k q h
  obtain ⟨hx, hb, hml, hown, hts, hK, hbH, hRc, hRs, hRf, hRl, hnm, hEx, hI, hV⟩ := hC
  dsimp only [oGt] at h
  split at h
  · next y x st =>
    intro H locs lsA hR hS hL ho hs
    have hy : sm_r y := sm_ok_hd hs
    have hxx : sm_r x := sm_ok_hd (sm_ok_tl hs)
    exact lv_icmp_gt hx hb hd ht (fun e0 => hJ _ _ _ _ _ _ (h.1 ((i3_lt hy hxx).mp e0)) H locs lsA hR hS hL ho (sm_ok_tl (sm_ok_tl hs))) (fun e0 => hN _ _ _ _ _ (h.2 ((i3_le hxx hy).mp (Int32.not_lt.mp e0))) H locs lsA hR hS hL ho (sm_ok_tl (sm_ok_tl hs)))
  · exact h.elim

theorem sd_gt0 {off : Int} {t : Nat} (hd : decode cc pc = .ok (.ifCond .gt off, 3)) (ht : (pc : Int) + off = (t : Int)) : sm_Snd l own nm cc nL z lev pc (pc + 3) (oGt0 t) := by
  intro p e R s m args below meth c Q b sb D cA H0 P hC Nx J hN hJ ls st w k q h
  obtain ⟨hx, hb, hml, hown, hts, hK, hbH, hRc, hRs, hRf, hRl, hnm, hEx, hI, hV⟩ := hC
  dsimp only [oGt0] at h
  split at h
  · next x st =>
    intro H locs lsA hR hS hL ho hs
    have hxx : sm_r x := sm_ok_hd hs
    have hy := i3_0
    exact lv_if_gt hx hb hd ht (fun e0 => hJ _ _ _ _ _ _ (h.1 ((i3_lt hy hxx).mp e0)) H locs lsA hR hS hL ho (sm_ok_tl hs)) (fun e0 => hN _ _ _ _ _ (h.2 ((i3_le hxx hy).mp (Int32.not_lt.mp e0))) H locs lsA hR hS hL ho (sm_ok_tl hs))
  · exact h.elim

theorem sd_le {off : Int} {t : Nat} (hd : decode cc pc = .ok (.if_icmp .le off, 3)) (ht : (pc : Int) + off = (t : Int)) : sm_Snd l own nm cc nL z lev pc (pc + 3) (oLe t) := by
  intro p e R s m args below meth c Q b sb D cA H0 P hC Nx J hN hJ ls st w k q h
  obtain ⟨hx, hb, hml, hown, hts, hK, hbH, hRc, hRs, hRf, hRl, hnm, hEx, hI, hV⟩ := hC
  dsimp only [oLe] at h
  split at h
  · next y x st =>
    intro H locs lsA hR hS hL ho hs
    have hy : sm_r y := sm_ok_hd hs
    have hxx : sm_r x := sm_ok_hd (sm_ok_tl hs)
    exact lv_icmp_le hx hb hd ht (fun e0 => hJ _ _ _ _ _ _ (h.1 ((i3_le hxx hy).mp e0)) H locs lsA hR hS hL ho (sm_ok_tl (sm_ok_tl hs))) (fun e0 => hN _ _ _ _ _ (h.2 ((i3_lt hy hxx).mp (Int32.not_le.mp e0))) H locs lsA hR hS hL ho (sm_ok_tl (sm_ok_tl hs)))
  · exact h.elim

theorem sd_le0 {off : Int} {t : Nat} (hd : decode cc pc = .ok (.ifCond .le off, 3)) (ht : (pc : Int) + off = (t : Int)) : sm_Snd l own nm cc nL z lev pc (pc + 3) (oLe0 t) := by
  intro p e R s m args below meth c Q b sb D cA H0 P hC Nx J hN hJ ls st w k q h
  obtain ⟨hx, hb, hml, hown, hts, hK, hbH, hRc, hRs, hRf, hRl, hnm, hEx, hI, hV⟩ := hC
  dsimp only [oLe0] at h
  split at h
  · next x st =>
    intro H locs lsA hR hS hL ho hs
    have hxx : sm_r x := sm_ok_hd hs
    have hy := i3_0
    exact lv_if_le hx hb hd ht (fun e0 => hJ _ _ _ _ _ _ (h.1 ((i3_le hxx hy).mp e0)) H locs lsA hR hS hL ho (sm_ok_tl hs)) (fun e0 => hN _ _ _ _ _ (h.2 ((i3_lt hy hxx).mp (Int32.not_le.mp e0))) H locs lsA hR hS hL ho (sm_ok_tl hs))
  · exact h.elim

end
end
section
/-! STEPS ON THE WORLD: fields, arrays, new ones -/
theorem sm_E_congr {b sb : Nat} {cA : Nat → ClassId} {w w' : sm_W} {id : Nat} (h1 : wS w' id = wS w id) (h2 : ∀ i, wI w' id i = wI w id i) (h3 : ∀ i, wR w' id i = wR w id i) : sm_E b sb cA w' id = sm_E b sb cA w id := by
  have e1 : ∀ ci, sm_fv b sb w' id ci = sm_fv b sb w id ci := fun ci => funext fun k => by unfold sm_fv; rw [h2, h3]
  have e2 : (fun j : Nat => Int32.ofInt (wI w' id j)) = fun j : Nat => Int32.ofInt (wI w id j) := funext fun j => by rw [h2]
  have e3 : (fun j : Nat => (wR w' id j).map (sm_ea b sb)) = fun j : Nat => (wR w id j).map (sm_ea b sb) := funext fun j => by rw [h3]
  unfold sm_E
  rw [h1, e1, e2, e3]
theorem wI_wsI_ne {w : sm_W} {a : Nat} {i v : Int} {x : Nat} (h : x ≠ a) (j : Int) : wI (wsI w a i v) x j = wI w x j := by
  rw [wI_wsI, if_neg (fun e => h e.1)]
theorem wR_wsR_ne {w : sm_W} {a : Nat} {i : Int} {v : Nat} {x : Nat} (h : x ≠ a) (j : Int) : wR (wsR w a i v) x j = wR w x j := by
  rw [wR_wsR, if_neg (fun e => h e.1)]
theorem sm_r_wsI {w : sm_W} {a : Nat} {i v : Int} (h : ∀ id i, sm_r (wI w id i)) (hv : sm_r v) : ∀ id j, sm_r (wI (wsI w a i v) id j) := by
  intro id j
  rw [wI_wsI]
  split
  · exact hv
  · exact h id j
theorem sm_cell_upd {c : ClassId} {n : Nat} {w : sm_W} {a : Nat} {i v : Int} (h0 : 0 ≤ i) (hr : sm_r i) : (vp_cell c (n, .inl (fun j : Nat => Int32.ofInt (wI w a j)))).setSlot (Int32.ofInt i).toNatClampNeg (.int (Int32.ofInt v)) = vp_cell c (n, .inl (fun j : Nat => Int32.ofInt (wI (wsI w a i v) a j))) := by
  rw [vp_cell_i, vp_cell_i, arrV_store]
  congr 1
  funext j
  have hc := i3_cl h0 hr
  unfold updV
  rw [wI_wsI]
  by_cases e : j = (Int32.ofInt i).toNatClampNeg
  · rw [if_pos e, if_pos ⟨rfl, by rw [e]; exact hc⟩]
  · rw [if_neg e, if_neg (fun e2 => e (by have := e2.2; omega))]
theorem sm_cell_updR {b sb : Nat} {c : ClassId} {n : Nat} {w : sm_W} {a : Nat} {i : Int} {v : Nat} (h0 : 0 ≤ i) (hr : sm_r i) : (vp_cell c (n, .inr (.inr (.inr (.inr (fun j : Nat => (wR w a j).map (sm_ea b sb))))))).setSlot (Int32.ofInt i).toNatClampNeg (.ref (sm_ea b sb v)) = vp_cell c (n, .inr (.inr (.inr (.inr (fun j : Nat => (wR (wsR w a i v) a j).map (sm_ea b sb)))))) := by
  rw [vp_cell_q, vp_cell_q, arrV_store]
  congr 1
  funext j
  have hc := i3_cl h0 hr
  unfold updV
  rw [wR_wsR]
  by_cases e : j = (Int32.ofInt i).toNatClampNeg
  · rw [if_pos e, if_pos ⟨rfl, by rw [e]; exact hc⟩]
    rfl
  · rw [if_neg e, if_neg (fun e2 => e (by have := e2.2; omega))]
theorem sm_put_i {b sb : Nat} {D : va_G} {cA : Nat → ClassId} {w : sm_W} {U : State} {H H1 : Heap} {a : Nat} {i v : Int} (hR : sm_Rep b sb D cA w U H) (ha : a < w.1) (hv : sm_r v) (hat : va_at D vwCl (sm_ea b sb a, sm_E b sb cA (wsI w a i v) a) H1) (hz : H1.size = H.size) (oq : ∀ q : Nat, q ≠ sm_ea b sb a → H1[q]? = H[q]?) : sm_Rep b sb D cA (wsI w a i v) U H1 :=
  sm_put hR ha rfl (fun _ => rfl) (sm_r_wsI hR.2.2.2.1 hv) (fun _ hne => sm_E_congr rfl (fun j => wI_wsI_ne hne j) (fun _ => rfl)) (fun j => wI_wsI_ne (by have := hR.1; omega) j) hat hz oq
theorem sm_put_r {b sb : Nat} {D : va_G} {cA : Nat → ClassId} {w : sm_W} {U : State} {H H1 : Heap} {a : Nat} {i : Int} {v : Nat} (hR : sm_Rep b sb D cA w U H) (ha : a < w.1) (hat : va_at D vwCl (sm_ea b sb a, sm_E b sb cA (wsR w a i v) a) H1) (hz : H1.size = H.size) (oq : ∀ q : Nat, q ≠ sm_ea b sb a → H1[q]? = H[q]?) : sm_Rep b sb D cA (wsR w a i v) U H1 :=
  sm_put hR ha rfl (fun _ => rfl) hR.2.2.2.1 (fun _ hne => sm_E_congr rfl (fun _ => rfl) (fun j => wR_wsR_ne hne j)) (fun _ => rfl) hat hz oq
theorem sm_A {b sb : Nat} {D : va_G} {cA : Nat → ClassId} {w : sm_W} {U : State} {H : Heap} {a : Nat} (hR : sm_Rep b sb D cA w U H) (ha : a < w.1) : b ≤ sm_ea b sb a := by
  rw [sm_ea_lt (by have := hR.1; omega)]
  omega
/-- a class's tables -/
def sm_Cl (ci : Nat) (C : String) (T : u_T) (N : Nat) : Prop := vwCl[ci]? = some (C, T, N) ∧ ci < 9 ∧ (∀ w ∈ u_ws C T N, w ∈ sm_tbl) ∧ (∀ k, k < N → parseFieldDescriptor (T k).2.2.1 = some (sm_ty ci k)) ∧ (∀ a, a < N → ∀ b, b < N → a ≠ b → (T a).2.1 ≠ (T b).2.1) ∧ (∀ k, k < N → (T k).1 = C) ∧ (∀ k, k < N → defaultValue (sm_ty ci k) = if sm_isR ci k = true then .null else .int 0)
theorem sm_fs_set {b sb : Nat} {w w' : sm_W} {a ci N k : Nat} (ho : ∀ j, j ≠ k → sm_fv b sb w' a ci j = sm_fv b sb w a ci j) : ((List.range N).map (sm_fv b sb w a ci)).set k (sm_fv b sb w' a ci k) = (List.range N).map (sm_fv b sb w' a ci) := by
  apply List.ext_getElem?
  intro j
  rw [List.getElem?_set, List.getElem?_map, List.getElem?_map]
  by_cases hj : j < N
  · rw [List.getElem?_range hj]
    by_cases e : k = j
    · subst e
      rw [if_pos rfl, if_pos (by simpa using hj)]
      rfl
    · rw [if_neg e]
      simp only [Option.map_some]
      rw [ho j (Ne.symm e)]
  · have hn : (List.range N)[j]? = none := List.getElem?_eq_none (by rw [List.length_range]; omega)
    rw [hn]
    by_cases e : k = j
    · subst e
      rw [if_pos rfl, if_neg (by simpa using hj)]
      rfl
    · rw [if_neg e]
      rfl
section
variable {p : Program} {l : Launch} {e : Env} {R : Room} {s : State} {m : MethodId} {args : Array Value} {below : List Frame} {meth : Method} {c : Code} {H : Heap} {locs : List Loc} {cells slots : Nat} {Q : State → Prop}
variable {cc : ByteArray} {pc : Nat} {ls : Array Slot} {rest : List Value} {D : va_G} {tys : List (ClassId × FieldType)} {a : Nat}
/-- a field of an object is written, and what it is then is told exactly -/
theorem sm_pf (hexec : p.tables.exec = Jvm.exec) (hb : c.code = cc) {own C : String} {T : u_T} {N ci index : Nat} (hts : ∀ w ∈ sm_tbl, w.before args s = true) (hcl : sm_Cl ci C T N) (hown : s.vm.findClass own = some m.cls) (hK : va_K D vwCl tys s) {fs : List Value} (hat : va_at D vwCl (a, .inr (ci, fs)) H) (k : Nat) (hk : k < N) (hlink : Cond.fieldLink own index C (T k).2.1 (T k).2.2.1 ∈ sm_tbl) (hfin : (T k).2.2.2 = false ∨ (meth.name = "<init>" ∧ C = own)) {v : Value} (hn : narrow (sm_ty ci k) v = v) (hfit : fits (sm_ty ci k) v = true) (hl : k < fs.length) (hdg : decode cc pc = .ok (.putfield index, 3))
    (kk : ∀ (H1 : Heap) (x : Nat), va_at D vwCl (a, .inr (ci, fs.set k v)) H1 → H1.size = H.size → (∀ q, q ≠ a → H1[q]? = H[q]?) → W p l e R s m args below meth c H1 (locs ++ [⟨a, x⟩]) cells slots Q (F0 m (pc + 3) ls rest)) : W p l e R s m args below meth c H locs cells slots Q (F0 m pc ls (v :: .ref a :: rest)) := by
  obtain ⟨hc, -, hin, hty, hnm, hdl, -⟩ := hcl
  have hap := va_apart (own := own) hts hin (sm_ty ci) hty hnm hK hc
  obtain ⟨r, h1, cell, q1, q2, q3, q4⟩ := hat
  have hr : r = (C, T, N) := Option.some.inj (h1.symm.trans hc)
  subst hr
  obtain ⟨hS, hfc, kC, hkC, hkind⟩ := hK.1 ci _ hc
  obtain ⟨cf, kf, fi, f, hi, hsl⟩ := hS k hk
  have hlay := hts _ (hin _ (u_in_lay hk))
  have hst := (u_facts hfc hkC (u_lays hts hin hk) hi).1
  have hlink' := hts _ hlink
  have hi' : s.fieldFound? C (T k).2.1 (T k).2.2.1 = some (cf, kf, fi, f) := by rw [← hdl k hk]; exact hi
  unfold u_lay at hlay
  by_cases hff : (T k).2.2.2 = true
  · rw [if_pos hff] at hlay
    obtain ⟨hin2, hCo⟩ : meth.name = "<init>" ∧ C = own := by
      rcases hfin with h | h
      · rw [hff] at h; cases h
      · exact h
    have hcf : m.cls = cf := by
      obtain ⟨_, _, c', _, _, _, -, -, hf', -, -, -, hown2, -⟩ := Cond.laysFinal_spec hlay
      have e1 : c' = cf := by have := hi.symm.trans hf'; simp at this; exact this.1.symm
      rw [hdl k hk, hCo] at hown2
      rw [← e1]; exact Option.some.inj (hown.symm.trans hown2)
    have h6 := u_fits hfc hkC hkind (Or.inr hlay) hi (hty k hk) hn hfit
    refine W.putFinK hexec hb hown hlink' hi' hst hcf hin2 (by rw [q2]; exact h6) q1 q3 (by rw [hsl]; exact k2_hasslot (q4 k hk)) rfl rfl hdg fun H' e1 e2 e3 => ?_
    rw [hsl] at e1
    exact kk H' _ ⟨_, hc, t_OB.to (V := updV (vp_V fs) k v) ⟨_, e1, q2, q3, t_set q4 hap hk v⟩ (fun j _ => vp_updV_set hl v j)⟩ e2 e3
  · rw [if_neg hff] at hlay
    have h6 := u_store hfc hkC hkind hlay hi (hty k hk) hn hfit
    refine W.putK hexec hb (f := f) ⟨hown, hlink', ⟨_, _, _, hi'⟩, hst⟩ (by rw [q2]; exact h6) q1 q3 (by rw [hsl]; exact k2_hasslot (q4 k hk)) rfl rfl hdg fun H' e1 e2 e3 => ?_
    rw [hsl] at e1
    exact kk H' _ ⟨_, hc, t_OB.to (V := updV (vp_V fs) k v) ⟨_, e1, q2, q3, t_set q4 hap hk v⟩ (fun j _ => vp_updV_set hl v j)⟩ e2 e3
end
section
variable {l : Launch} {own nm : String} {cc : ByteArray} {nL : Nat} {z : Nat} {lev : Nat} {pc : Nat}

theorem sd_geti {ci N k idx : Nat} {C : String} {T : u_T} (hcl : sm_Cl ci C T N) (hk : k < N) (hr : sm_isR ci k = false) (hl : Cond.fieldLink own idx C (T k).2.1 (T k).2.2.1 ∈ sm_tbl) (hd : decode cc pc = .ok (.getfield idx, 3)) : sm_Snd l own nm cc nL z lev pc (pc + 3) (oGi ci N (k : Int)) := by
  intro p e R s m args below meth c Q b sb D cA H0 P hC Nx J hN hJ ls st w kc qc h
  obtain ⟨hx, hb, hml, hown, hts, hK, hbH, hRc, hRs, hRf, hRl, hnm, hEx, hI, hV⟩ := hC
  dsimp only [oGi] at h
  split at h
  · next a st =>
    obtain ⟨h1, h⟩ := h
    intro H locs lsA hR hS hL ho hs
    have ha := sm_lt hR (a := a) (by rw [h1]; have := hcl.2.1; dsimp only; omega)
    have he : sm_fv b sb w a ci k = Value.int (Int32.ofInt (wI w a k)) := by unfold sm_fv; rw [if_neg (by rw [hr]; decide)]
    refine va_get hx hb hts hcl.2.2.1 hown hK hR.2.2.1 a (by rw [sm_ws_get ha, sm_E_o h1 hcl.2.1]) hcl.1 k hk (hts _ hl) (by rw [hcl.2.2.2.2.2.1 k hk]; exact fun _ h => h) (v := Value.int (Int32.ofInt (wI w a k))) (by rw [← he]; exact (by rw [List.getElem?_map, List.getElem?_range hk]; rfl)) hd ?_
    exact hN _ _ _ _ _ h H locs lsA hR hS hL ho (sm_ok_cons (hR.2.2.2.1 a k) (sm_ok_tl hs))
  · exact h.elim

theorem sd_getr {ci N k idx : Nat} {C : String} {T : u_T} (hcl : sm_Cl ci C T N) (hk : k < N) (hr : sm_isR ci k = true) (hl : Cond.fieldLink own idx C (T k).2.1 (T k).2.2.1 ∈ sm_tbl) (hd : decode cc pc = .ok (.getfield idx, 3)) : sm_Snd l own nm cc nL z lev pc (pc + 3) (oGr ci N (k : Int)) := by
  intro p e R s m args below meth c Q b sb D cA H0 P hC Nx J hN hJ ls st w kc qc h
  obtain ⟨hx, hb, hml, hown, hts, hK, hbH, hRc, hRs, hRf, hRl, hnm, hEx, hI, hV⟩ := hC
  dsimp only [oGr] at h
  split at h
  · next a st =>
    obtain ⟨h1, d, h2, h⟩ := h
    intro H locs lsA hR hS hL ho hs
    have ha := sm_lt hR (a := a) (by rw [h1]; have := hcl.2.1; dsimp only; omega)
    have he : sm_fv b sb w a ci k = Value.ref (sm_ea b sb d) := by unfold sm_fv; rw [if_pos hr, h2]; rfl
    refine va_get hx hb hts hcl.2.2.1 hown hK hR.2.2.1 a (by rw [sm_ws_get ha, sm_E_o h1 hcl.2.1]) hcl.1 k hk (hts _ hl) (by rw [hcl.2.2.2.2.2.1 k hk]; exact fun _ h => h) (v := Value.ref (sm_ea b sb d)) (by rw [← he]; exact (by rw [List.getElem?_map, List.getElem?_range hk]; rfl)) hd ?_
    exact hN _ _ _ _ _ h H locs lsA hR hS hL ho (sm_ok_cons trivial (sm_ok_tl hs))
  · exact h.elim

theorem sd_puti {ci N k idx : Nat} {C : String} {T : u_T} (hcl : sm_Cl ci C T N) (hk : k < N) (hty : sm_ty ci k = .int) (hfin : (T k).2.2.2 = false ∨ (nm = "<init>" ∧ C = own)) (hl : Cond.fieldLink own idx C (T k).2.1 (T k).2.2.1 ∈ sm_tbl) (hd : decode cc pc = .ok (.putfield idx, 3)) : sm_Snd l own nm cc nL z lev pc (pc + 3) (oPi ci N (k : Int)) := by
  intro p e R s m args below meth c Q b sb D cA H0 P hC Nx J hN hJ ls st w kc qc h
  obtain ⟨hx, hb, hml, hown, hts, hK, hbH, hRc, hRs, hRf, hRl, hnm, hEx, hI, hV⟩ := hC
  dsimp only [oPi] at h
  split at h
  · next v a st =>
    obtain ⟨h1, h⟩ := h
    intro H locs lsA hR hS hL ho hs
    have ha := sm_lt hR (a := a) (by rw [h1]; have := hcl.2.1; dsimp only; omega)
    have hr : sm_isR ci k = false := by unfold sm_isR; rw [hty]
    have he : sm_fv b sb (wsI w a k v) a ci k = Value.int (Int32.ofInt v) := by unfold sm_fv; rw [if_neg (by rw [hr]; decide), wI_wsI, if_pos ⟨rfl, rfl⟩]
    have hat : va_at D vwCl (sm_ea b sb a, .inr (ci, (List.range N).map (sm_fv b sb w a ci))) H := by
      have := hR.2.2.1 a _ (sm_ws_get ha)
      rw [sm_E_o h1 hcl.2.1] at this
      exact this
    refine sm_pf hx hb hts hcl hown hK hat k hk hl (by rw [hnm]; exact hfin) (v := Value.int (Int32.ofInt v)) (by rw [hty]; rfl) (by rw [hty]; rfl) (by simpa using hk) hd fun H1 x e1 e2 e3 => ?_
    refine hN _ _ _ _ _ h H1 _ lsA (sm_put_i hR ha (sm_ok_hd hs : sm_r v) ?_ e2 e3) (hS.put e2 e3 (sm_A hR ha)) hL ho (sm_ok_tl (sm_ok_tl hs))
    rw [sm_E_o (w := wsI w a k v) h1 hcl.2.1, ← sm_fs_set (w := w) (k := k) (fun j hj => by unfold sm_fv; rw [wI_wsI, if_neg (show ¬ (a = a ∧ (j : Int) = (k : Int)) from fun e => hj (Int.ofNat_inj.mp e.2)), wR_wsI]), he]
    exact e1
  · exact h.elim

theorem sd_putz {ci N k idx : Nat} {C : String} {T : u_T} (hcl : sm_Cl ci C T N) (hk : k < N) (hty : sm_ty ci k = .boolean) (hfin : (T k).2.2.2 = false ∨ (nm = "<init>" ∧ C = own)) (hl : Cond.fieldLink own idx C (T k).2.1 (T k).2.2.1 ∈ sm_tbl) (hd : decode cc pc = .ok (.putfield idx, 3)) : sm_Snd l own nm cc nL z lev pc (pc + 3) (oPz ci N (k : Int)) := by
  intro p e R s m args below meth c Q b sb D cA H0 P hC Nx J hN hJ ls st w kc qc h
  obtain ⟨hx, hb, hml, hown, hts, hK, hbH, hRc, hRs, hRf, hRl, hnm, hEx, hI, hV⟩ := hC
  dsimp only [oPz] at h
  split at h
  · next v a st =>
    obtain ⟨h1, h2, h⟩ := h
    intro H locs lsA hR hS hL ho hs
    have ha := sm_lt hR (a := a) (by rw [h1]; have := hcl.2.1; dsimp only; omega)
    have hr : sm_isR ci k = false := by unfold sm_isR; rw [hty]
    have he : sm_fv b sb (wsI w a k v) a ci k = Value.int (Int32.ofInt v) := by unfold sm_fv; rw [if_neg (by rw [hr]; decide), wI_wsI, if_pos ⟨rfl, rfl⟩]
    have hat : va_at D vwCl (sm_ea b sb a, .inr (ci, (List.range N).map (sm_fv b sb w a ci))) H := by
      have := hR.2.2.1 a _ (sm_ws_get ha)
      rw [sm_E_o h1 hcl.2.1] at this
      exact this
    refine sm_pf hx hb hts hcl hown hK hat k hk hl (by rw [hnm]; exact hfin) (v := Value.int (Int32.ofInt v)) (by rw [hty]; rcases h2 with rfl | rfl <;> rfl) (by rw [hty]; rcases h2 with rfl | rfl <;> rfl) (by simpa using hk) hd fun H1 x e1 e2 e3 => ?_
    refine hN _ _ _ _ _ h H1 _ lsA (sm_put_i hR ha (sm_ok_hd hs : sm_r v) ?_ e2 e3) (hS.put e2 e3 (sm_A hR ha)) hL ho (sm_ok_tl (sm_ok_tl hs))
    rw [sm_E_o (w := wsI w a k v) h1 hcl.2.1, ← sm_fs_set (w := w) (k := k) (fun j hj => by unfold sm_fv; rw [wI_wsI, if_neg (show ¬ (a = a ∧ (j : Int) = (k : Int)) from fun e => hj (Int.ofNat_inj.mp e.2)), wR_wsI]), he]
    exact e1
  · exact h.elim

theorem sd_putr {ci N k idx : Nat} {C : String} {T : u_T} (hcl : sm_Cl ci C T N) (hk : k < N) (hr : sm_isR ci k = true) (hty : ∀ x : Nat, narrow (sm_ty ci k) (.ref x) = .ref x ∧ fits (sm_ty ci k) (.ref x) = true) (hfin : (T k).2.2.2 = false ∨ (nm = "<init>" ∧ C = own)) (hl : Cond.fieldLink own idx C (T k).2.1 (T k).2.2.1 ∈ sm_tbl) (hd : decode cc pc = .ok (.putfield idx, 3)) : sm_Snd l own nm cc nL z lev pc (pc + 3) (oPr ci N (k : Int)) := by
  intro p e R s m args below meth c Q b sb D cA H0 P hC Nx J hN hJ ls st w kc qc h
  obtain ⟨hx, hb, hml, hown, hts, hK, hbH, hRc, hRs, hRf, hRl, hnm, hEx, hI, hV⟩ := hC
  dsimp only [oPr] at h
  split at h
  · next v a st =>
    obtain ⟨h1, h⟩ := h
    intro H locs lsA hR hS hL ho hs
    have ha := sm_lt hR (a := a) (by rw [h1]; have := hcl.2.1; dsimp only; omega)
    have hr' := hr
    have he : sm_fv b sb (wsR w a k v) a ci k = Value.ref (sm_ea b sb v) := by unfold sm_fv; rw [if_pos hr, wR_wsR, if_pos ⟨rfl, rfl⟩]; rfl
    have hat : va_at D vwCl (sm_ea b sb a, .inr (ci, (List.range N).map (sm_fv b sb w a ci))) H := by
      have := hR.2.2.1 a _ (sm_ws_get ha)
      rw [sm_E_o h1 hcl.2.1] at this
      exact this
    refine sm_pf hx hb hts hcl hown hK hat k hk hl (by rw [hnm]; exact hfin) (v := Value.ref (sm_ea b sb v)) (hty _).1 (hty _).2 (by simpa using hk) hd fun H1 x e1 e2 e3 => ?_
    refine hN _ _ _ _ _ h H1 _ lsA (sm_put_r hR ha ?_ e2 e3) (hS.put e2 e3 (sm_A hR ha)) hL ho (sm_ok_tl (sm_ok_tl hs))
    rw [sm_E_o (w := wsR w a k v) h1 hcl.2.1, ← sm_fs_set (w := w) (k := k) (fun j hj => by unfold sm_fv; rw [wR_wsR, if_neg (show ¬ (a = a ∧ (j : Int) = (k : Int)) from fun e => hj (Int.ofNat_inj.mp e.2)), wI_wsR]), he]
    exact e1
  · exact h.elim

theorem sd_len (hd : decode cc pc = .ok (.arraylength, 1)) : sm_Snd l own nm cc nL z lev pc (pc + 1) (oLen) := by
  intro p e R s m args below meth c Q b sb D cA H0 P hC Nx J hN hJ ls st w kc qc h
  obtain ⟨hx, hb, hml, hown, hts, hK, hbH, hRc, hRs, hRf, hRl, hnm, hEx, hI, hV⟩ := hC
  dsimp only [oLen] at h
  split at h
  · next a st =>
    obtain ⟨h1, h2, h⟩ := h
    intro H locs lsA hR hS hL ho hs
    have hn : sm_r ((wS w a).2 : Int) := ⟨by omega, h2⟩
    rcases h1 with ⟨h1, h3⟩ | ⟨h1, h3⟩
    · have ha := sm_lt hR h3
      rcases Nat.lt_or_ge (wS w a).1 12 with h4 | h4
      · refine va_alen hx hb hK hR.2.2.1 a ((wS w a).1 - 9) (x := ((wS w a).2, .inl _)) (cA := cA ((wS w a).1 - 9)) (by rw [sm_ws_get ha, sm_E_i rfl h1 h4]) (ty := [FieldType.int, .boolean, .char].getD ((wS w a).1 - 9) .int) ?_ (v := Int32.ofInt ((wS w a).2 : Int)) rfl hd (hN _ _ _ _ _ h H locs lsA hR hS hL ho (sm_ok_cons hn (sm_ok_tl hs)))
        rcases (show (wS w a).1 = 9 ∨ (wS w a).1 = 10 ∨ (wS w a).1 = 11 by omega) with e | e | e <;> rw [e] <;> rfl
      · refine va_alen hx hb hK hR.2.2.1 a ((wS w a).1 - 9) (x := ((wS w a).2, .inr (.inr (.inr (.inr _))))) (cA := cA ((wS w a).1 - 9)) (by rw [sm_ws_get ha, sm_E_r rfl h4]) (ty := [FieldType.object RX2, .array .int].getD ((wS w a).1 - 12) .int) ?_ (v := Int32.ofInt ((wS w a).2 : Int)) rfl hd (hN _ _ _ _ _ h H locs lsA hR hS hL ho (sm_ok_cons hn (sm_ok_tl hs)))
        rcases (show (wS w a).1 = 12 ∨ (wS w a).1 = 13 by omega) with e | e <;> rw [e] <;> rfl
    · subst h3
      have hX := hR.2.2.2.2.2.2 (wS w 1000).2 (by rw [← h1])
      have hsb := hR.2.2.2.2.1
      have hz := hR.2.1
      exact va_slen (b := sb) (L := (wS w 1000).2) (H0 := H) (A := fun x => b ≤ x) hx hb hX (by omega) (by show ¬ b ≤ sb; omega) ⟨Nat.le_refl _, fun _ _ _ => rfl, hS.2.2⟩ hd (hN _ _ _ _ _ h H locs lsA hR hS hL ho (sm_ok_cons hn (sm_ok_tl hs)))
  · exact h.elim

theorem sd_baload (hd : decode cc pc = .ok (.baload, 1)) : sm_Snd l own nm cc nL z lev pc (pc + 1) (oZl) := by
  intro p e R s m args below meth c Q b sb D cA H0 P hC Nx J hN hJ ls st w kc qc h
  obtain ⟨hx, hb, hml, hown, hts, hK, hbH, hRc, hRs, hRf, hRl, hnm, hEx, hI, hV⟩ := hC
  dsimp only [oZl] at h
  split at h
  · next i a st =>
    obtain ⟨h1, h2, h3, h⟩ := h
    intro H locs lsA hR hS hL ho hs
    have hi : sm_r i := sm_ok_hd hs
    have ha := sm_lt hR (a := a) (by rw [h1]; decide)
    have k := hN _ _ _ _ _ h H locs lsA hR hS hL ho (sm_ok_cons (hR.2.2.2.1 a i) (sm_ok_tl (sm_ok_tl hs)))
    refine va_zald hx hb hK hR.2.2.1 a 1 (cA := cA 1) (f := fun j : Nat => Int32.ofInt (wI w a j)) (by rw [sm_ws_get ha, sm_E_i h1 (by decide) (by decide)]) rfl (i3_in h2 h3 hi) hd ?_
    rw [i3_cl h2 hi]
    exact k
  · exact h.elim

theorem sd_caload (hd : decode cc pc = .ok (.caload, 1)) : sm_Snd l own nm cc nL z lev pc (pc + 1) (oCl) := by
  intro p e R s m args below meth c Q b sb D cA H0 P hC Nx J hN hJ ls st w kc qc h
  obtain ⟨hx, hb, hml, hown, hts, hK, hbH, hRc, hRs, hRf, hRl, hnm, hEx, hI, hV⟩ := hC
  dsimp only [oCl] at h
  split at h
  · next i a st =>
    obtain ⟨h1, h2, h3, h⟩ := h
    intro H locs lsA hR hS hL ho hs
    have hi : sm_r i := sm_ok_hd hs
    have ha := sm_lt hR (a := a) (by rw [h1]; decide)
    have k := hN _ _ _ _ _ h H locs lsA hR hS hL ho (sm_ok_cons (hR.2.2.2.1 a i) (sm_ok_tl (sm_ok_tl hs)))
    refine va_cald hx hb hK hR.2.2.1 a 2 (cA := cA 2) (f := fun j : Nat => Int32.ofInt (wI w a j)) (by rw [sm_ws_get ha, sm_E_i h1 (by decide) (by decide)]) rfl (i3_in h2 h3 hi) hd ?_
    rw [i3_cl h2 hi]
    exact k
  · exact h.elim

theorem sd_iaload (hd : decode cc pc = .ok (.iaload, 1)) : sm_Snd l own nm cc nL z lev pc (pc + 1) (oIl) := by
  intro p e R s m args below meth c Q b sb D cA H0 P hC Nx J hN hJ ls st w kc qc h
  obtain ⟨hx, hb, hml, hown, hts, hK, hbH, hRc, hRs, hRf, hRl, hnm, hEx, hI, hV⟩ := hC
  dsimp only [oIl] at h
  split at h
  · next i a st =>
    obtain ⟨h1, h2, h3, h⟩ := h
    intro H locs lsA hR hS hL ho hs
    have hi : sm_r i := sm_ok_hd hs
    have k := hN _ _ _ _ _ h H locs lsA hR hS hL ho (sm_ok_cons (hR.2.2.2.1 a i) (sm_ok_tl (sm_ok_tl hs)))
    rcases h1 with h1 | h1
    · have ha := sm_lt hR (a := a) (by rw [h1]; decide)
      refine va_iald hx hb hK hR.2.2.1 a 0 (cA := cA 0) (f := fun j : Nat => Int32.ofInt (wI w a j)) (by rw [sm_ws_get ha, sm_E_i h1 (by decide) (by decide)]) rfl (i3_in h2 h3 hi) hd ?_
      rw [i3_cl h2 hi]
      exact k
    · obtain ⟨h1, h4⟩ := h1
      subst h4
      have hX := hR.2.2.2.2.2.2 (wS w 1000).2 (by rw [← h1])
      have hsb := hR.2.2.2.2.1
      have hz := hR.2.1
      refine va_sld (H0 := H) (A := fun x => b ≤ x) hx hb (xs := fun j : Nat => Int32.ofInt (wI w 1000 j)) hX (by omega) (by show ¬ b ≤ sb; omega) ⟨Nat.le_refl _, fun _ _ _ => rfl, hS.2.2⟩ (i3_in h2 h3 hi) hd ?_
      rw [i3_cl h2 hi]
      exact k
  · exact h.elim

theorem sd_aaload (hd : decode cc pc = .ok (.aaload, 1)) : sm_Snd l own nm cc nL z lev pc (pc + 1) (oRl) := by
  intro p e R s m args below meth c Q b sb D cA H0 P hC Nx J hN hJ ls st w kc qc h
  obtain ⟨hx, hb, hml, hown, hts, hK, hbH, hRc, hRs, hRf, hRl, hnm, hEx, hI, hV⟩ := hC
  dsimp only [oRl] at h
  split at h
  · next i a st =>
    obtain ⟨h1, h2, h3, d, h4, h⟩ := h
    intro H locs lsA hR hS hL ho hs
    have hi : sm_r i := sm_ok_hd hs
    have ha := sm_lt hR (a := a) (by omega)
    have hlt : (Int32.ofInt i).toNatClampNeg < (wS w a).2 := by have := i3_cl h2 hi; omega
    have hnn : ¬ (Int32.ofInt i < 0) := by rw [i3_z, i3_lt hi i3_0]; omega
    have k := hN _ _ _ _ _ h H locs lsA hR hS hL ho (sm_ok_cons (v := .inr (.inl d)) trivial (sm_ok_tl (sm_ok_tl hs)))
    have hc := hR.2.2.1 a _ (sm_ws_get ha)
    rw [sm_E_r rfl (by omega)] at hc
    have hc : H[sm_ea b sb a]? = some (arrV (cA ((wS w a).1 - 9)) (wS w a).2 (fun j : Nat => va_rf ((wR w a j).map (sm_ea b sb)))) := hc
    have hty : ∃ ty : FieldType, ty.isReference = true ∧ (sm_tys cA)[(wS w a).1 - 9]? = some (cA ((wS w a).1 - 9), ty) := by
      rcases h1 with e | e <;> rw [e]
      · exact ⟨.object RX2, rfl, rfl⟩
      · exact ⟨.array .int, rfl, rfl⟩
    obtain ⟨ty, t1, t2⟩ := hty
    refine W.aald (v := va_rf ((wR w a (Int32.ofInt i).toNatClampNeg).map (sm_ea b sb))) (ty := ty) hx hb hc ((hK.2 _ _ t2).1 _ _) t1 (fun q => by cases q) (by rw [arrV_size]; exact fun q => q.elim hnn (fun q => by omega)) (by rw [arrV_read _ _ hlt]) rfl rfl hd ?_
    rw [i3_cl h2 hi, h4]
    exact k
  · exact h.elim

theorem sd_iastore (hd : decode cc pc = .ok (.iastore, 1)) : sm_Snd l own nm cc nL z lev pc (pc + 1) (oIst) := by
  intro p e R s m args below meth c Q b sb D cA H0 P hC Nx J hN hJ ls st w kc qc h
  obtain ⟨hx, hb, hml, hown, hts, hK, hbH, hRc, hRs, hRf, hRl, hnm, hEx, hI, hV⟩ := hC
  dsimp only [oIst] at h
  split at h
  · next v i a st =>
    obtain ⟨h1, h2, h3, h⟩ := h
    intro H locs lsA hR hS hL ho hs
    have hv : sm_r v := sm_ok_hd hs
    have hi : sm_r i := sm_ok_hd (sm_ok_tl hs)
    have ha := sm_lt hR (a := a) (by rw [h1]; decide)
    have hc := hR.2.2.1 a _ (sm_ws_get ha)
    rw [sm_E_i h1 (by decide) (by decide)] at hc
    have hlt : (Int32.ofInt i).toNatClampNeg < (wS w a).2 := by have := i3_cl h2 hi; omega
    have hnn : ¬ (Int32.ofInt i < 0) := by rw [i3_z, i3_lt hi i3_0]; omega
    refine W.iast hx hb hc ((hK.2 0 _ rfl).1 _ (fun j : Nat => .int (Int32.ofInt (wI w a j)))) (fun q => by cases q) (by show ¬ (_ ∨ (arrV _ _ _).slots.size ≤ _); rw [arrV_size]; exact fun q => q.elim hnn (fun q => absurd q (Nat.not_le.mpr hlt))) rfl rfl hd fun H1 e1 e2 e3 => ?_
    rw [sm_cell_upd h2 hi] at e1
    refine hN _ _ _ _ _ h H1 _ lsA (sm_put_i hR ha hv ?_ e2 e3) (hS.put e2 e3 (sm_A hR ha)) hL ho (sm_ok_tl (sm_ok_tl (sm_ok_tl hs)))
    rw [sm_E_i (w := wsI w a i v) h1 (by decide) (by decide)]
    exact e1
  · exact h.elim

theorem sd_bastore (hd : decode cc pc = .ok (.bastore, 1)) : sm_Snd l own nm cc nL z lev pc (pc + 1) (oZst) := by
  intro p e R s m args below meth c Q b sb D cA H0 P hC Nx J hN hJ ls st w kc qc h
  obtain ⟨hx, hb, hml, hown, hts, hK, hbH, hRc, hRs, hRf, hRl, hnm, hEx, hI, hV⟩ := hC
  dsimp only [oZst] at h
  split at h
  · next v i a st =>
    obtain ⟨h1, h2, h3, h4, h⟩ := h
    intro H locs lsA hR hS hL ho hs
    have hv : sm_r v := sm_ok_hd hs
    have hi : sm_r i := sm_ok_hd (sm_ok_tl hs)
    have ha := sm_lt hR (a := a) (by rw [h1]; decide)
    have hc := hR.2.2.1 a _ (sm_ws_get ha)
    rw [sm_E_i h1 (by decide) (by decide)] at hc
    have hlt : (Int32.ofInt i).toNatClampNeg < (wS w a).2 := by have := i3_cl h2 hi; omega
    have hnn : ¬ (Int32.ofInt i < 0) := by rw [i3_z, i3_lt hi i3_0]; omega
    refine W.zast hx hb hc ((hK.2 1 _ rfl).1 _ (fun j : Nat => .int (Int32.ofInt (wI w a j)))) (fun q => by cases q) (by show ¬ (_ ∨ (arrV _ _ _).slots.size ≤ _); rw [arrV_size]; exact fun q => q.elim hnn (fun q => absurd q (Nat.not_le.mpr hlt))) rfl rfl hd fun H1 e1 e2 e3 => ?_
    rw [show narrow .boolean (.int (Int32.ofInt v)) = .int (Int32.ofInt v) by rcases h4 with rfl | rfl <;> rfl] at e1
    rw [sm_cell_upd h2 hi] at e1
    refine hN _ _ _ _ _ h H1 _ lsA (sm_put_i hR ha hv ?_ e2 e3) (hS.put e2 e3 (sm_A hR ha)) hL ho (sm_ok_tl (sm_ok_tl (sm_ok_tl hs)))
    rw [sm_E_i (w := wsI w a i v) h1 (by decide) (by decide)]
    exact e1
  · exact h.elim

theorem sd_castore (hd : decode cc pc = .ok (.castore, 1)) : sm_Snd l own nm cc nL z lev pc (pc + 1) (oCst) := by
  intro p e R s m args below meth c Q b sb D cA H0 P hC Nx J hN hJ ls st w kc qc h
  obtain ⟨hx, hb, hml, hown, hts, hK, hbH, hRc, hRs, hRf, hRl, hnm, hEx, hI, hV⟩ := hC
  dsimp only [oCst] at h
  split at h
  · next v i a st =>
    obtain ⟨h1, h2, h3, h4, h5, h⟩ := h
    intro H locs lsA hR hS hL ho hs
    have hv : sm_r v := sm_ok_hd hs
    have hi : sm_r i := sm_ok_hd (sm_ok_tl hs)
    have ha := sm_lt hR (a := a) (by rw [h1]; decide)
    have hc := hR.2.2.1 a _ (sm_ws_get ha)
    rw [sm_E_i h1 (by decide) (by decide)] at hc
    have hlt : (Int32.ofInt i).toNatClampNeg < (wS w a).2 := by have := i3_cl h2 hi; omega
    have hnn : ¬ (Int32.ofInt i < 0) := by rw [i3_z, i3_lt hi i3_0]; omega
    refine W.cast hx hb hc ((hK.2 2 _ rfl).1 _ (fun j : Nat => .int (Int32.ofInt (wI w a j)))) (fun q => by cases q) (by show ¬ (_ ∨ (arrV _ _ _).slots.size ≤ _); rw [arrV_size]; exact fun q => q.elim hnn (fun q => absurd q (Nat.not_le.mpr hlt))) rfl rfl hd fun H1 e1 e2 e3 => ?_
    rw [show narrow .char (.int (Int32.ofInt v)) = .int (Int32.ofInt v) by rw [i3_n h4]; exact (pk_charN (by omega)).1] at e1
    rw [sm_cell_upd h2 hi] at e1
    refine hN _ _ _ _ _ h H1 _ lsA (sm_put_i hR ha hv ?_ e2 e3) (hS.put e2 e3 (sm_A hR ha)) hL ho (sm_ok_tl (sm_ok_tl (sm_ok_tl hs)))
    rw [sm_E_i (w := wsI w a i v) h1 (by decide) (by decide)]
    exact e1
  · exact h.elim

theorem sd_aastore (hd : decode cc pc = .ok (.aastore, 1)) : sm_Snd l own nm cc nL z lev pc (pc + 1) (oRst) := by
  intro p e R s m args below meth c Q b sb D cA H0 P hC Nx J hN hJ ls st w kc qc h
  obtain ⟨hx, hb, hml, hown, hts, hK, hbH, hRc, hRs, hRf, hRl, hnm, hEx, hI, hV⟩ := hC
  dsimp only [oRst] at h
  split at h
  · next v i a st =>
    obtain ⟨h1, h5, h2, h3, h⟩ := h
    intro H locs lsA hR hS hL ho hs
    have hi : sm_r i := sm_ok_hd (sm_ok_tl hs)
    have ha := sm_lt hR (a := a) (by rw [h1]; decide)
    have hva := sm_lt hR (a := v) (by rw [h5]; decide)
    have hc := hR.2.2.1 a _ (sm_ws_get ha)
    rw [sm_E_r h1 (by decide)] at hc
    have hlt : (Int32.ofInt i).toNatClampNeg < (wS w a).2 := by have := i3_cl h2 hi; omega
    have hnn : ¬ (Int32.ofInt i < 0) := by rw [i3_z, i3_lt hi i3_0]; omega
    have hvv := hR.2.2.1 v _ (sm_ws_get hva)
    rw [sm_E_o h5 (by decide)] at hvv
    obtain ⟨r, hr0, cellV, g1, g2, g3, -⟩ := hvv
    have hcls := (hK.1 2 (RX2, TX2, 9) rfl).2
    obtain ⟨kA, comp, k1, k2, k3, -⟩ := (hK.2 3 (cA 3, .object RX2) rfl).2
    have hcomp : comp = D.1 2 := Option.some.inj (k3.symm.trans hcls.1)
    subst hcomp
    obtain ⟨kC, hkC, -⟩ := hcls.2
    refine W.aast hx hb hc (fun q h => by cases h) (fun h => by cases h) k1 k2 rfl hkC ⟨hnn, by show _ < (arrV _ _ _).slots.size; rw [arrV_size]; exact hlt⟩ g1 (fun q h => by rw [g3] at h; cases h) (by rw [g2]; exact hkC) (by rw [g2]; exact va_assign hcls) rfl rfl hd fun H1 e1 e2 e3 => ?_
    rw [sm_cell_updR h2 hi] at e1
    refine hN _ _ _ _ _ h H1 _ lsA (sm_put_r hR ha ?_ e2 e3) (hS.put e2 e3 (sm_A hR ha)) hL ho (sm_ok_tl (sm_ok_tl (sm_ok_tl hs)))
    rw [sm_E_r (w := wsR w a i v) h1 (by decide)]
    exact e1
  · exact h.elim

end
end
section
/-! CALLS, ENDS, BLOCKS, AND A METHOD'S CONTRACT OUT OF A RUN OF THE SMALL MACHINE -/
theorem sm_goodIn {ws : List Cond} (h : ∀ w ∈ ws, w ∈ sm_tbl) : GoodIn sm_tbl ws := fun w hw => ⟨h w hw, good_of_word (sm_good (h w hw)).2⟩
def sm_rm (lev mc ms : Nat) : Room := { frames := lev, cells := mc, slots := ms, locals := 40 * lev }
def sm_Pc (b sb : Nat) (D : va_G) (cA : Nat → ClassId) (as : List sm_V) (w : sm_W) : Array Value → State → Prop := fun a U => a = (as.map (sm_ev b sb)).toArray ∧ sm_Rep b sb D cA w U U.heap ∧ va_K D vwCl (sm_tys cA) U ∧ sm_Ex U ∧ ∀ v ∈ as, sm_ok v
def sm_Qc (b sb : Nat) (D : va_G) (cA : Nat → ClassId) (r : Option sm_V × sm_W) : Array Value → State → Outcome → State → Prop := fun _ st o t => o = .returned (r.1.map (sm_ev b sb)) ∧ sm_Rep b sb D cA r.2 t t.heap ∧ (∀ v, r.1 = some v → sm_ok v) ∧ va_F (fun x => b ≤ x) st t
def sm_Met (l : Launch) (y : MethodName) (bytes : ByteArray) (maxL : Nat) (ret : Option FieldType) (lev mc ms : Nat) (Pre : List sm_V → sm_W → Prop) (F : sm_F) : Prop := ∀ b sb D cA as w, Pre as w → Met l y (Cond.code y bytes maxL ret :: sm_tbl) (sm_rm lev mc ms) (sm_Pc b sb D cA as w) (sm_Qc b sb D cA (F as w)) mc ms (fun x => b ≤ x)
theorem sm_Pc_blind {b sb : Nat} {D : va_G} {cA : Nat → ClassId} {as : List sm_V} {w : sm_W} : FrameBlind (sm_Pc b sb D cA as w) := fun a U g mk h => ⟨h.1, sm_Rep.moved (u := U) (U := U.calling g mk a) (Vm.Alike.refl U.vm) h.2.1, va_K.moved (u := U) (U := U.calling g mk a) (Vm.Alike.refl U.vm) h.2.2.1, sm_Ex.same (u := U) (U := U.calling g mk a) rfl h.2.2.2.1, h.2.2.2.2⟩
theorem sm_pop_spec : ∀ {n : Nat} {st acc as rest : List sm_V}, sm_pop n st acc = some (as, rest) → ∃ xs : List sm_V, xs.length = n ∧ st = xs ++ rest ∧ as = xs.reverse ++ acc
  | 0, st, acc, as, rest, h => by
    cases h
    exact ⟨[], rfl, rfl, rfl⟩
  | n + 1, [], acc, as, rest, h => by cases h
  | n + 1, v :: st, acc, as, rest, h => by
    obtain ⟨xs, h1, h2, h3⟩ := sm_pop_spec (n := n) (st := st) (acc := v :: acc) h
    exact ⟨v :: xs, by simp [h1], by rw [h2]; rfl, by rw [h3]; simp⟩
section
variable {p : Program} {l : Launch} {e : Env} {R : Room} {s : State} {m : MethodId} {args : Array Value} {below : List Frame} {meth : Method} {c : Code} {H : Heap} {locs : List Loc} {Q : State → Prop} {b sb : Nat} {D : va_G} {cA : Nat → ClassId} {H0 : Heap}
theorem sm_after {k q mc ms pc : Nat} {lsA : Array Slot} {st0 rest : List Value} {a : Array Value} {r : Option sm_V × sm_W} (hr : va_Run p l e R s m args below meth c H locs k q mc ms (F0 m pc lsA st0) rest (sm_Qc b sb D cA r a) (fun x => b ≤ x)) (hbH : b ≤ H0.size) (hS : va_S (fun x => b ≤ x) H0 H locs)
    (kk : ∀ (H1 : Heap) (locs1 : List Loc), sm_Rep b sb D cA r.2 s H1 → va_S (fun x => b ≤ x) H0 H1 locs1 → (∀ v, r.1 = some v → sm_ok v) → W p l e R s m args below meth c H1 locs1 (k + mc) (q + ms) Q (F0 m (pc + 3) lsA ((r.1.map (sm_ev b sb)).toList ++ rest))) : W p l e R s m args below meth c H locs k q Q (F0 m pc lsA st0) := by
  intro T hT X
  obtain ⟨v, st₀, t, T', L, h0, X', hL, e1, e2, ⟨hv, hR, hok, hz, hk⟩, st⟩ := hr T hT X
  cases hv
  rw [h0] at hz hk
  have hal : t.vm.Alike s.vm := by rw [← e2]; exact X'.warmed.alike.symm
  obtain ⟨t2, a1, b1⟩ := kk T'.heap (locs ++ L) (by rw [e1]; exact hR.moved hal)
    ⟨Nat.le_trans hS.1 (by rw [e1]; exact hz), fun x h1 h2 => by rw [e1, hk x (Nat.lt_of_lt_of_le h1 hS.1) h2]; exact hS.2.1 x h1 h2, fun x hx => by
      rcases List.mem_append.mp hx with h | h
      · exact hS.2.2 x h
      · exact hL x h⟩ hok T' rfl X'
  exact ⟨t2, st t2 a1, b1⟩
end
section
variable {l : Launch} {own nm : String} {cc : ByteArray} {nL : Nat} {z : Nat} {lev : Nat} {pc : Nat}
theorem sm_back_go {p : Program} {e : Env} {R : Room} {s : State} {m : MethodId} {args : Array Value} {below : List Frame} {meth : Method} {c : Code} {Q : State → Prop} {b sb : Nat} {D : va_G} {cA : Nat → ClassId} {H0 : Heap} {Nx : sm_K} {pc' : Nat} (hN : ∀ ls st w k q, Nx ls st w k q → sm_Wz p l e R s m args below meth c Q b sb D cA H0 nL pc' ls st w k q) {ls : List (Option sm_V)} {st : List sm_V} {k q : Nat} {r : Option sm_V × sm_W} (h : sm_back Nx ls st k q r)
    (H : Heap) (locs : List Loc) (lsA : Array Slot) (hR : sm_Rep b sb D cA r.2 s H) (hS : va_S (fun x => b ≤ x) H0 H locs) (hL : sm_L nL b sb lsA ls) (ho : ∀ v, some v ∈ ls → sm_ok v) (hs : ∀ v ∈ st, sm_ok v) (hok : ∀ v, r.1 = some v → sm_ok v) : W p l e R s m args below meth c H locs k q Q (F0 m pc' lsA ((r.1.map (sm_ev b sb)).toList ++ st.map (sm_ev b sb))) := by
  obtain ⟨v, w⟩ := r
  cases v with
  | none => exact hN _ _ _ _ _ h H locs lsA hR hS hL ho hs
  | some v => exact hN _ _ _ _ _ h H locs lsA hR hS hL ho (sm_ok_cons (hok v rfl) hs)

theorem sd_callv {y : MethodName} {bytes : ByteArray} {maxL : Nat} {ret : Option FieldType} {lv mc ms n idx : Nat} {Pre : List sm_V → sm_W → Prop} {F : sm_F} (hM : sm_Met l y bytes maxL ret lv mc ms Pre F) (hlv : lv + 1 ≤ lev) (hmx : maxL ≤ 21) (hcode : Cond.code y bytes maxL ret ∈ sm_tbl) (hlink : Cond.methodLink own idx y ∈ sm_tbl) (hini : Cond.initialized y.cls ∈ sm_tbl) (hdd : y.cls ≠ "java/lang/invoke/MethodHandle" ∧ y.cls ≠ "java/lang/invoke/VarHandle" ∧ (parseMethodDescriptor y.desc).map (fun d => d.parameters.length) = some n) {ci N : Nat} {C : String} {T : u_T} (hcl : sm_Cl ci C T N) (hinst : Cond.instanceMethod y ∈ sm_tbl) (hsel : Cond.selects C y y ∈ sm_tbl) (hd : decode cc pc = .ok (.invokevirtual idx, 3)) : sm_Snd l own nm cc nL z lev pc (pc + 3) (oCv ci N Pre F mc ms (n + 1)) := by
  intro p e R s m args below meth c Q b sb D cA H0 P hC Nx J hN hJ ls st w kc qc h
  obtain ⟨hx, hb, hml, hown, hts, hK, hbH, hRc, hRs, hRf, hRl, hnm, hEx, hI, hV⟩ := id hC
  dsimp only [oCv] at h
  split at h
  · next a as st' hp =>
    obtain ⟨h0, h1, h2, h3, h4, h⟩ := h
    obtain ⟨xs, x1, x2, x3⟩ := sm_pop_spec hp
    subst x2
    rw [List.append_nil] at x3
    intro H locs lsA hR hS hL ho hs
    have hsr : ∀ v ∈ st', sm_ok v := fun v hv => hs v (List.mem_append_right _ hv)
    have hsa : ∀ v ∈ (.inr (.inl a) :: as : List sm_V), sm_ok v := fun v hv => hs v (List.mem_append_left _ (List.mem_reverse.mp (by rw [← x3]; exact hv)))
    have hG : GoodIn sm_tbl (Cond.code y bytes maxL ret :: sm_tbl) := sm_goodIn (fun w hw => (List.mem_cons.mp hw).elim (fun e => e ▸ hcode) id)
    have hB := callB_of n hts hG rfl rfl rfl (hts _ hini) (hts _ hlink) hdd (rm := sm_rm lv mc ms) (R := R) ⟨by show lv + 1 ≤ _; omega, by show 8 + (maxL + 11) + 40 * lv ≤ _; omega⟩
    have hxs : xs.map (sm_ev b sb) = (as.map (sm_ev b sb)).reverse ++ [.ref (sm_ea b sb a)] := by
      have hxx : xs = (.inr (.inl a) :: as : List sm_V).reverse := by rw [x3, List.reverse_reverse]
      rw [hxx, List.reverse_cons, List.map_append, List.map_reverse]
      rfl
    have hla : as.length = n := by
      have hl2 := congrArg List.length x3
      rw [List.length_cons, List.length_reverse, x1] at hl2
      omega
    refine sm_after (r := F (.inr (.inl a) :: as) w) (va_runV ⟨hx, hb, hml, hown, hts⟩ (hM b sb D cA (.inr (.inl a) :: as) w h1) ⟨hB, hts _ hinst, hts _ hsel⟩ ⟨sm_Pc_blind, va_recv hK hR.2.2.1 hcl.1 (q0 := a) (fs := (List.range N).map (sm_fv b sb w a ci)) (by rw [sm_ws_get (sm_lt hR (a := a) (by rw [h0]; have := hcl.2.1; dsimp only; omega)), sm_E_o h0 hcl.2.1]), fun U hU hW => ⟨rfl, by rw [hU]; exact hR.moved hW.alike, va_K.moved hW.alike hK, hEx.warm hW, hsa⟩⟩ (g := F0 m pc lsA ((xs ++ st').map (sm_ev b sb))) (As := as.map (sm_ev b sb)) rfl (by rw [List.length_map, hla]) hL.1 (rest := st'.map (sm_ev b sb)) (by show (xs ++ st').map (sm_ev b sb) = _; rw [List.map_append, hxs, List.append_assoc]; rfl) (lv_room (pc := pc) (ls := lsA) (rest := []) (m := m) (by rw [sm_wds_map]; exact h2)) hd ⟨by rw [hRc]; exact h3, by rw [hRs]; exact h4⟩) hbH hS (fun H1 locs1 hR1 hS1 hok => ?_)
    exact sm_back_go hN h H1 locs1 lsA hR1 hS1 hL ho hsr hok
  · exact h.elim

theorem sd_calli {y : MethodName} {bytes : ByteArray} {maxL : Nat} {lv mc ms n idx : Nat} {Pre : List sm_V → sm_W → Prop} {F : sm_F} (hM : sm_Met l y bytes maxL none lv mc ms Pre F) (hlv : lv + 1 ≤ lev) (hmx : maxL ≤ 21) (hcode : Cond.code y bytes maxL none ∈ sm_tbl) (hlink : Cond.methodLink own idx y ∈ sm_tbl) (hini : Cond.initialized y.cls ∈ sm_tbl) (hdd : y.cls ≠ "java/lang/invoke/MethodHandle" ∧ y.cls ≠ "java/lang/invoke/VarHandle" ∧ (parseMethodDescriptor y.desc).map (fun d => d.parameters.length) = some n) (hin : y.name = "<init>") (hinst : Cond.instanceMethod y ∈ sm_tbl) (hd : decode cc pc = .ok (.invokespecial idx, 3)) : sm_Snd l own nm cc nL z lev pc (pc + 3) (oCi Pre F mc ms (n + 1)) := by
  intro p e R s m args below meth c Q b sb D cA H0 P hC Nx J hN hJ ls st w kc qc h
  obtain ⟨hx, hb, hml, hown, hts, hK, hbH, hRc, hRs, hRf, hRl, hnm, hEx, hI, hV⟩ := id hC
  dsimp only [oCi] at h
  split at h
  · next a as st' hp =>
    obtain ⟨h1, h2, h3, h4, h⟩ := h
    obtain ⟨xs, x1, x2, x3⟩ := sm_pop_spec hp
    subst x2
    rw [List.append_nil] at x3
    intro H locs lsA hR hS hL ho hs
    have hsr : ∀ v ∈ st', sm_ok v := fun v hv => hs v (List.mem_append_right _ hv)
    have hsa : ∀ v ∈ (.inr (.inl a) :: as : List sm_V), sm_ok v := fun v hv => hs v (List.mem_append_left _ (List.mem_reverse.mp (by rw [← x3]; exact hv)))
    have hG : GoodIn sm_tbl (Cond.code y bytes maxL none :: sm_tbl) := sm_goodIn (fun w hw => (List.mem_cons.mp hw).elim (fun e => e ▸ hcode) id)
    have hB := callB_of n hts hG rfl rfl rfl (hts _ hini) (hts _ hlink) hdd (rm := sm_rm lv mc ms) (R := R) ⟨by show lv + 1 ≤ _; omega, by show 8 + (maxL + 11) + 40 * lv ≤ _; omega⟩
    have hxs : xs.map (sm_ev b sb) = (as.map (sm_ev b sb)).reverse ++ [.ref (sm_ea b sb a)] := by
      have hxx : xs = (.inr (.inl a) :: as : List sm_V).reverse := by rw [x3, List.reverse_reverse]
      rw [hxx, List.reverse_cons, List.map_append, List.map_reverse]
      rfl
    have hla : as.length = n := by
      have hl2 := congrArg List.length x3
      rw [List.length_cons, List.length_reverse, x1] at hl2
      omega
    refine sm_after (r := F (.inr (.inl a) :: as) w) (va_runI ⟨hx, hb, hml, hown, hts⟩ (hM b sb D cA (.inr (.inl a) :: as) w h1) ⟨hB, hin, hts _ hinst⟩ ⟨sm_Pc_blind, fun U hU hW => ⟨rfl, by rw [hU]; exact hR.moved hW.alike, va_K.moved hW.alike hK, hEx.warm hW, hsa⟩⟩ (g := F0 m pc lsA ((xs ++ st').map (sm_ev b sb))) (As := as.map (sm_ev b sb)) rfl (by rw [List.length_map, hla]) hL.1 (rest := st'.map (sm_ev b sb)) (by show (xs ++ st').map (sm_ev b sb) = _; rw [List.map_append, hxs, List.append_assoc]; rfl) (lv_room (pc := pc) (ls := lsA) (rest := []) (m := m) (by rw [sm_wds_map]; exact h2)) hd ⟨by rw [hRc]; exact h3, by rw [hRs]; exact h4⟩) hbH hS (fun H1 locs1 hR1 hS1 hok => ?_)
    exact sm_back_go hN h H1 locs1 lsA hR1 hS1 hL ho hsr hok
  · exact h.elim

theorem sd_calls {y : MethodName} {bytes : ByteArray} {maxL : Nat} {ret : Option FieldType} {lv mc ms n idx : Nat} {Pre : List sm_V → sm_W → Prop} {F : sm_F} (hM : sm_Met l y bytes maxL ret lv mc ms Pre F) (hlv : lv + 1 ≤ lev) (hmx : maxL ≤ 21) (hcode : Cond.code y bytes maxL ret ∈ sm_tbl) (hlink : Cond.methodLink own idx y ∈ sm_tbl) (hini : Cond.initialized y.cls ∈ sm_tbl) (hdd : y.cls ≠ "java/lang/invoke/MethodHandle" ∧ y.cls ≠ "java/lang/invoke/VarHandle" ∧ (parseMethodDescriptor y.desc).map (fun d => d.parameters.length) = some n) (hst : Cond.static y ∈ sm_tbl) (hd : decode cc pc = .ok (.invokestatic idx, 3)) : sm_Snd l own nm cc nL z lev pc (pc + 3) (oCs Pre F mc ms n) := by
  intro p e R s m args below meth c Q b sb D cA H0 P hC Nx J hN hJ ls st w kc qc h
  obtain ⟨hx, hb, hml, hown, hts, hK, hbH, hRc, hRs, hRf, hRl, hnm, hEx, hI, hV⟩ := id hC
  dsimp only [oCs] at h
  split at h
  · next as st' hp =>
    obtain ⟨h1, h2, h3, h4, h⟩ := h
    obtain ⟨xs, x1, x2, x3⟩ := sm_pop_spec hp
    subst x2
    rw [List.append_nil] at x3
    subst x3
    intro H locs lsA hR hS hL ho hs
    have hsr : ∀ v ∈ st', sm_ok v := fun v hv => hs v (List.mem_append_right _ hv)
    have hsa : ∀ v ∈ xs.reverse, sm_ok v := fun v hv => hs v (List.mem_append_left _ (List.mem_reverse.mp hv))
    have hG : GoodIn sm_tbl (Cond.code y bytes maxL ret :: sm_tbl) := sm_goodIn (fun w hw => (List.mem_cons.mp hw).elim (fun e => e ▸ hcode) id)
    have hB := callB_of n hts hG rfl rfl rfl (hts _ hini) (hts _ hlink) hdd (rm := sm_rm lv mc ms) (R := R) ⟨by show lv + 1 ≤ _; omega, by show 8 + (maxL + 11) + 40 * lv ≤ _; omega⟩
    refine sm_after (r := F xs.reverse w) (va_runS ⟨hx, hb, hml, hown, hts⟩ (hM b sb D cA xs.reverse w h1) ⟨hB, hts _ hst⟩ ⟨sm_Pc_blind, fun U hU hW => ⟨rfl, by rw [hU]; exact hR.moved hW.alike, va_K.moved hW.alike hK, hEx.warm hW, hsa⟩⟩ (g := F0 m pc lsA ((xs ++ st').map (sm_ev b sb))) rfl (by rw [List.length_map, List.length_reverse, x1]) hL.1 (rest := st'.map (sm_ev b sb)) (by show (xs ++ st').map (sm_ev b sb) = _; rw [List.map_append, List.map_reverse, List.reverse_reverse]) (lv_room (pc := pc) (ls := lsA) (rest := []) (m := m) (by rw [sm_wds_map]; exact h2)) hd ⟨by rw [hRc]; exact h3, by rw [hRs]; exact h4⟩) hbH hS (fun H1 locs1 hR1 hS1 hok => ?_)
    exact sm_back_go hN h H1 locs1 lsA hR1 hS1 hL ho hsr hok
  · exact h.elim

theorem sd_callsN {y : MethodName} {bytes : ByteArray} {maxL : Nat} {ret : Option FieldType} {lv mc ms n idx : Nat} {Pre : List sm_V → sm_W → Prop} {F : sm_F} (hM : sm_Met l y bytes maxL ret lv mc ms Pre F) (hlv : lv + 1 ≤ lev) (hmx : maxL ≤ 21) (hcode : Cond.code y bytes maxL ret ∈ sm_tbl) (hlink : (own, idx, y) ∈ sm_nest) (hini : Cond.initialized y.cls ∈ sm_tbl) (hdd : y.cls ≠ "java/lang/invoke/MethodHandle" ∧ y.cls ≠ "java/lang/invoke/VarHandle" ∧ (parseMethodDescriptor y.desc).map (fun d => d.parameters.length) = some n) (hst : Cond.static y ∈ sm_tbl) (hd : decode cc pc = .ok (.invokestatic idx, 3)) : sm_Snd l own nm cc nL z lev pc (pc + 3) (oCs Pre F mc ms n) := by
  intro p e R s m args below meth c Q b sb D cA H0 P hC Nx J hN hJ ls st w kc qc h
  obtain ⟨hx, hb, hml, hown, hts, hK, hbH, hRc, hRs, hRf, hRl, hnm, hEx, hI, hV⟩ := id hC
  dsimp only [oCs] at h
  split at h
  · next as st' hp =>
    obtain ⟨h1, h2, h3, h4, h⟩ := h
    obtain ⟨xs, x1, x2, x3⟩ := sm_pop_spec hp
    subst x2
    rw [List.append_nil] at x3
    subst x3
    intro H locs lsA hR hS hL ho hs
    have hsr : ∀ v ∈ st', sm_ok v := fun v hv => hs v (List.mem_append_right _ hv)
    have hsa : ∀ v ∈ xs.reverse, sm_ok v := fun v hv => hs v (List.mem_append_left _ (List.mem_reverse.mp hv))
    have hG : GoodIn sm_tbl (Cond.code y bytes maxL ret :: sm_tbl) := sm_goodIn (fun w hw => (List.mem_cons.mp hw).elim (fun e => e ▸ hcode) id)
    have hB := va_cnB n hts hG rfl rfl rfl (hEx.2.2 (own, idx, y) hlink) (hts _ hini) hdd (rm := sm_rm lv mc ms) (R := R) ⟨by show lv + 1 ≤ _; omega, by show 8 + (maxL + 11) + 40 * lv ≤ _; omega⟩
    refine sm_after (r := F xs.reverse w) (va_runSN ⟨hx, hb, hml, hown, hts⟩ (hM b sb D cA xs.reverse w h1) ⟨hB, hts _ hst, trivial⟩ ⟨sm_Pc_blind, fun U hU hW => ⟨rfl, by rw [hU]; exact hR.moved hW.alike, va_K.moved hW.alike hK, hEx.warm hW, hsa⟩⟩ (g := F0 m pc lsA ((xs ++ st').map (sm_ev b sb))) rfl (by rw [List.length_map, List.length_reverse, x1]) hL.1 (rest := st'.map (sm_ev b sb)) (by show (xs ++ st').map (sm_ev b sb) = _; rw [List.map_append, List.map_reverse, List.reverse_reverse]) (lv_room (pc := pc) (ls := lsA) (rest := []) (m := m) (by rw [sm_wds_map]; exact h2)) hd ⟨by rw [hRc]; exact h3, by rw [hRs]; exact h4⟩) hbH hS (fun H1 locs1 hR1 hS1 hok => ?_)
    exact sm_back_go hN h H1 locs1 lsA hR1 hS1 hL ho hsr hok
  · exact h.elim

theorem sd_calliN {y : MethodName} {bytes : ByteArray} {maxL : Nat} {lv mc ms n idx : Nat} {Pre : List sm_V → sm_W → Prop} {F : sm_F} (hM : sm_Met l y bytes maxL none lv mc ms Pre F) (hlv : lv + 1 ≤ lev) (hmx : maxL ≤ 21) (hcode : Cond.code y bytes maxL none ∈ sm_tbl) (hlink : (own, idx, y) ∈ sm_nest) (hini : Cond.initialized y.cls ∈ sm_tbl) (hdd : y.cls ≠ "java/lang/invoke/MethodHandle" ∧ y.cls ≠ "java/lang/invoke/VarHandle" ∧ (parseMethodDescriptor y.desc).map (fun d => d.parameters.length) = some n) (hin : y.name = "<init>") (hinst : Cond.instanceMethod y ∈ sm_tbl) (hd : decode cc pc = .ok (.invokespecial idx, 3)) : sm_Snd l own nm cc nL z lev pc (pc + 3) (oCi Pre F mc ms (n + 1)) := by
  intro p e R s m args below meth c Q b sb D cA H0 P hC Nx J hN hJ ls st w kc qc h
  obtain ⟨hx, hb, hml, hown, hts, hK, hbH, hRc, hRs, hRf, hRl, hnm, hEx, hI, hV⟩ := id hC
  dsimp only [oCi] at h
  split at h
  · next a as st' hp =>
    obtain ⟨h1, h2, h3, h4, h⟩ := h
    obtain ⟨xs, x1, x2, x3⟩ := sm_pop_spec hp
    subst x2
    rw [List.append_nil] at x3
    intro H locs lsA hR hS hL ho hs
    have hsr : ∀ v ∈ st', sm_ok v := fun v hv => hs v (List.mem_append_right _ hv)
    have hsa : ∀ v ∈ (.inr (.inl a) :: as : List sm_V), sm_ok v := fun v hv => hs v (List.mem_append_left _ (List.mem_reverse.mp (by rw [← x3]; exact hv)))
    have hG : GoodIn sm_tbl (Cond.code y bytes maxL none :: sm_tbl) := sm_goodIn (fun w hw => (List.mem_cons.mp hw).elim (fun e => e ▸ hcode) id)
    have hB := va_cnB n hts hG rfl rfl rfl (hEx.2.2 (own, idx, y) hlink) (hts _ hini) hdd (rm := sm_rm lv mc ms) (R := R) ⟨by show lv + 1 ≤ _; omega, by show 8 + (maxL + 11) + 40 * lv ≤ _; omega⟩
    have hxs : xs.map (sm_ev b sb) = (as.map (sm_ev b sb)).reverse ++ [.ref (sm_ea b sb a)] := by
      have hxx : xs = (.inr (.inl a) :: as : List sm_V).reverse := by rw [x3, List.reverse_reverse]
      rw [hxx, List.reverse_cons, List.map_append, List.map_reverse]
      rfl
    have hla : as.length = n := by
      have hl2 := congrArg List.length x3
      rw [List.length_cons, List.length_reverse, x1] at hl2
      omega
    refine sm_after (r := F (.inr (.inl a) :: as) w) (va_runIN ⟨hx, hb, hml, hown, hts⟩ (hM b sb D cA (.inr (.inl a) :: as) w h1) ⟨hB, hin, hts _ hinst⟩ ⟨sm_Pc_blind, fun U hU hW => ⟨rfl, by rw [hU]; exact hR.moved hW.alike, va_K.moved hW.alike hK, hEx.warm hW, hsa⟩⟩ (g := F0 m pc lsA ((xs ++ st').map (sm_ev b sb))) (As := as.map (sm_ev b sb)) rfl (by rw [List.length_map, hla]) hL.1 (rest := st'.map (sm_ev b sb)) (by show (xs ++ st').map (sm_ev b sb) = _; rw [List.map_append, hxs, List.append_assoc]; rfl) (lv_room (pc := pc) (ls := lsA) (rest := []) (m := m) (by rw [sm_wds_map]; exact h2)) hd ⟨by rw [hRc]; exact h3, by rw [hRs]; exact h4⟩) hbH hS (fun H1 locs1 hR1 hS1 hok => ?_)
    exact sm_back_go hN h H1 locs1 lsA hR1 hS1 hL ho hsr hok
  · exact h.elim

theorem sd_ireturn {x : Nat} (hz : z = 1) (hd : decode cc pc = .ok (.ireturn, 1)) : sm_Snd l own nm cc nL z lev pc (x) (oIr) := by
  intro p e R s m args below meth c Q b sb D cA H0 P hC Nx J hN hJ ls st w kc qc h
  obtain ⟨hx, hb, hml, hown, hts, hK, hbH, hRc, hRs, hRf, hRl, hnm, hEx, hI, hV⟩ := id hC
  dsimp only [oIr] at h
  split at h
  · next n =>
    obtain ⟨h1, h2, h⟩ := h
    intro H locs lsA hR hS hL ho hs
    exact hI pc H locs lsA w kc qc n hd (by omega) (fun e => by omega) h (sm_ok_hd hs) h1 h2 hR hS
  · exact h.elim

theorem sd_zreturn {x : Nat} (hz : z = 2) (hd : decode cc pc = .ok (.ireturn, 1)) : sm_Snd l own nm cc nL z lev pc (x) (oZr) := by
  intro p e R s m args below meth c Q b sb D cA H0 P hC Nx J hN hJ ls st w kc qc h
  obtain ⟨hx, hb, hml, hown, hts, hK, hbH, hRc, hRs, hRf, hRl, hnm, hEx, hI, hV⟩ := id hC
  dsimp only [oZr] at h
  split at h
  · next n =>
    obtain ⟨h0, h1, h2, h⟩ := h
    intro H locs lsA hR hS hL ho hs
    exact hI pc H locs lsA w kc qc n hd (by omega) (fun _ => h0) h (sm_ok_hd hs) h1 h2 hR hS
  · exact h.elim

theorem sd_return {x : Nat} (hz : z = 0) (hd : decode cc pc = .ok (.return_, 1)) : sm_Snd l own nm cc nL z lev pc (x) (oVr) := by
  intro p e R s m args below meth c Q b sb D cA H0 P hC Nx J hN hJ ls st w kc qc h
  obtain ⟨hx, hb, hml, hown, hts, hK, hbH, hRc, hRs, hRf, hRl, hnm, hEx, hI, hV⟩ := id hC
  dsimp only [oVr] at h
  split at h
  · obtain ⟨h1, h2, h⟩ := h
    intro H locs lsA hR hS hL ho hs
    exact hV pc H locs lsA w kc qc hd hz h h1 h2 hR hS
  · exact h.elim

end
end
section
/-! THE OTHER STEPS; BLOCKS; A METHOD'S CONTRACT OUT OF A RUN -/
theorem sm_cases_at {J : Nat → Prop} {x : Int} : ∀ {lo : Int} {ts : List Nat} {i : Nat} {t : Nat}, sm_cases J x lo ts → ts[i]? = some t → x = lo + i → J t
  | lo, [], i, t, _, h, _ => by cases h
  | lo, u :: ts, 0, t, hc, h, hx => by
    cases h
    exact hc.1 (by omega)
  | lo, u :: ts, i + 1, t, hc, h, hx => sm_cases_at (i := i) hc.2 h (by omega)
theorem i3_nn {x : Int} (h : 0 ≤ x) (h2 : x < 2147483648) : (Int32.ofInt x).toBitVec.toNat = x.toNat := by
  rw [i3_n h, pk_tn (by omega)]
theorem i3_orN {x y : Nat} (hx : x < 65536) (hy : y < 65536) : nI x ||| nI y = nI (x ||| y) := by
  apply Int32.toBitVec_inj.mp
  apply BitVec.eq_of_toNat_eq
  have hlt : x ||| y < 65536 := Nat.or_lt_two_pow (n := 16) hx hy
  rw [Int32.toBitVec_or, BitVec.toNat_or, pk_tn (by omega), pk_tn (by omega), pk_tn (by omega)]
section
variable {l : Launch} {own nm : String} {cc : ByteArray} {nL : Nat} {z : Nat} {lev : Nat} {pc : Nat}

theorem sd_ldc2 {idx : Nat} {v : Int64} (hl : Cond.constantLong own idx v ∈ sm_tbl) (hd : decode cc pc = .ok (.ldc2_w idx, 3)) : sm_Snd l own nm cc nL z lev pc (pc + 3) (oLK v) := by
  intro p e R s m args below meth c Q b sb D cA H0 P hC Nx J hN hJ ls st w kc qc h
  obtain ⟨hx, hb, hml, hown, hts, hK, hbH, hRc, hRs, hRf, hRl, hnm, hEx, hI, hV⟩ := id hC
  intro H locs lsA hR hS hL ho hs
  exact lv_ldc2 hx hb hown (hts _ hl) hd (hN _ _ _ _ _ h H locs lsA hR hS hL ho (sm_ok_cons (v := .inr (.inr v)) trivial hs))

theorem sd_sw {x : Nat} {d lo hi : Int} {offs : Array Int} {len : Nat} {ts : List Nat} {dt : Nat} (hd : decode cc pc = .ok (.tableswitch d lo hi offs, len)) (hn : (lo + ts.length : Int) = hi + 1) (hdt : (pc : Int) + d = (dt : Int)) (hts2 : offs.toList = ts.map (fun t : Nat => (t : Int) - (pc : Int))) : sm_Snd l own nm cc nL z lev pc (x) (oSw lo ts dt) := by
  intro p e R s m args below meth c Q b sb D cA H0 P hC Nx J hN hJ ls st w kc qc h
  obtain ⟨hx, hb, hml, hown, hts, hK, hbH, hRc, hRs, hRf, hRl, hnm, hEx, hI, hV⟩ := id hC
  dsimp only [oSw] at h
  split at h
  · next x st =>
    intro H locs lsA hR hS hL ho hs
    have hxx : sm_r x := sm_ok_hd hs
    have hst := sm_ok_tl hs
    by_cases hin : x < lo ∨ hi < x
    · exact lv_tableOut hx hb hd (by rw [i3_toInt hxx]; exact hin) hdt (hJ _ _ _ _ _ _ (h.2 (by omega)) H locs lsA hR hS hL ho hst)
    · have h1 : ¬ x < lo := fun e => hin (Or.inl e)
      have h2 : ¬ hi < x := fun e => hin (Or.inr e)
      have hlen : (x - lo).toNat < ts.length := by omega
      obtain ⟨t, ht⟩ : ∃ t, ts[(x - lo).toNat]? = some t := ⟨_, List.getElem?_eq_getElem hlen⟩
      have ho2 : offs[(x - lo).toNat]? = some ((t : Int) - pc) := by
        rw [← Array.getElem?_toList, hts2, List.getElem?_map, ht]
        rfl
      have hjj := sm_cases_at (J := fun t => J t ls st w kc qc) (x := x) h.1 ht (by omega)
      refine lv_tableIn (off := (t : Int) - (pc : Int)) (tgt := t) hx hb hd ?_ ?_ ?_ (by omega) (hJ _ _ _ _ _ _ hjj H locs lsA hR hS hL ho hst)
      · rw [i3_toInt hxx]; exact h1
      · rw [i3_toInt hxx]; exact h2
      · rw [i3_toInt hxx]; exact ho2
  · exact h.elim

theorem sd_iand (hd : decode cc pc = .ok (.iand, 1)) : sm_Snd l own nm cc nL z lev pc (pc + 1) (oAnd) := by
  intro p e R s m args below meth c Q b sb D cA H0 P hC Nx J hN hJ ls st w kc qc h
  obtain ⟨hx, hb, hml, hown, hts, hK, hbH, hRc, hRs, hRf, hRl, hnm, hEx, hI, hV⟩ := id hC
  dsimp only [oAnd] at h
  split at h
  · next y x st =>
    intro H locs lsA hR hS hL ho hs
    have hxx : sm_r x := sm_ok_hd (sm_ok_tl hs)
    have hst := sm_ok_tl (sm_ok_tl hs)
    obtain ⟨h0, h⟩ := h
    subst h0
    have hr : sm_r (x % 32) := ⟨by omega, by omega⟩
    have k := hN _ _ _ _ _ h H locs lsA hR hS hL ho (sm_ok_cons hr hst)
    have he : Int32.ofInt x &&& Int32.ofInt 31 = Int32.ofInt (x % 32) := by
      rw [pk_and _ 5 (by decide), i3_n (i := x % 32) (by omega)]
      congr 1
      show _ % 32 = _
      have h1 : ((Int32.ofInt x).toBitVec.toInt) = x := i3_toInt hxx
      have h2 := BitVec.toInt_eq_toNat_cond (Int32.ofInt x).toBitVec
      have h3 := (Int32.ofInt x).toBitVec.isLt
      have h4 := hxx.1
      have h5 := hxx.2
      rw [h1] at h2
      split at h2 <;> omega
    refine lv_iand hx hb hd ?_
    have k' : W p l e R s m args below meth c H locs kc qc Q (F0 m (pc + 1) lsA (.int (Int32.ofInt (x % 32)) :: st.map (sm_ev b sb))) := k
    rw [← he] at k'
    exact k'
  · exact h.elim

theorem sd_iandb (hd : decode cc pc = .ok (.iand, 1)) : sm_Snd l own nm cc nL z lev pc (pc + 1) (oAndB) := by
  intro p e R s m args below meth c Q b sb D cA H0 P hC Nx J hN hJ ls st w kc qc h
  obtain ⟨hx, hb, hml, hown, hts, hK, hbH, hRc, hRs, hRf, hRl, hnm, hEx, hI, hV⟩ := id hC
  dsimp only [oAndB] at h
  split at h
  · next y x st =>
    intro H locs lsA hR hS hL ho hs
    have hst := sm_ok_tl (sm_ok_tl hs)
    obtain ⟨h1, h2, h⟩ := h
    have hr : sm_r (x * y) := by rcases h1 with rfl | rfl <;> rcases h2 with rfl | rfl <;> exact ⟨by decide, by decide⟩
    have k := hN _ _ _ _ _ h H locs lsA hR hS hL ho (sm_ok_cons hr hst)
    have he : Int32.ofInt x &&& Int32.ofInt y = Int32.ofInt (x * y) := by rcases h1 with rfl | rfl <;> rcases h2 with rfl | rfl <;> decide
    refine lv_iand hx hb hd ?_
    have k' : W p l e R s m args below meth c H locs kc qc Q (F0 m (pc + 1) lsA (.int (Int32.ofInt (x * y)) :: st.map (sm_ev b sb))) := k
    rw [← he] at k'
    exact k'
  · exact h.elim

theorem sd_ior (hd : decode cc pc = .ok (.ior, 1)) : sm_Snd l own nm cc nL z lev pc (pc + 1) (oOr) := by
  intro p e R s m args below meth c Q b sb D cA H0 P hC Nx J hN hJ ls st w kc qc h
  obtain ⟨hx, hb, hml, hown, hts, hK, hbH, hRc, hRs, hRf, hRl, hnm, hEx, hI, hV⟩ := id hC
  dsimp only [oOr] at h
  split at h
  · next y x st =>
    intro H locs lsA hR hS hL ho hs
    have hst := sm_ok_tl (sm_ok_tl hs)
    obtain ⟨h1, h2, h3, h4, h⟩ := h
    have hlt : x.toNat ||| y.toNat < 65536 := Nat.or_lt_two_pow (n := 16) (by omega) (by omega)
    have hr : sm_r ((x.toNat ||| y.toNat : Nat) : Int) := ⟨by omega, by omega⟩
    have k := hN _ _ _ _ _ h H locs lsA hR hS hL ho (sm_ok_cons hr hst)
    have he : Int32.ofInt x ||| Int32.ofInt y = Int32.ofInt ((x.toNat ||| y.toNat : Nat) : Int) := by
      rw [i3_n h1, i3_n h3, i3_orN (by omega) (by omega), i3_n (by omega), Int.toNat_natCast]
    refine lv_ior hx hb hd ?_
    have k' : W p l e R s m args below meth c H locs kc qc Q (F0 m (pc + 1) lsA (.int (Int32.ofInt ((x.toNat ||| y.toNat : Nat) : Int)) :: st.map (sm_ev b sb))) := k
    rw [← he] at k'
    exact k'
  · exact h.elim

theorem sd_ishl (hd : decode cc pc = .ok (.ishl, 1)) : sm_Snd l own nm cc nL z lev pc (pc + 1) (oShl) := by
  intro p e R s m args below meth c Q b sb D cA H0 P hC Nx J hN hJ ls st w kc qc h
  obtain ⟨hx, hb, hml, hown, hts, hK, hbH, hRc, hRs, hRf, hRl, hnm, hEx, hI, hV⟩ := id hC
  dsimp only [oShl] at h
  split at h
  · next y x st =>
    intro H locs lsA hR hS hL ho hs
    have hst := sm_ok_tl (sm_ok_tl hs)
    obtain ⟨h1, h2, h3, h⟩ := h
    subst h1
    obtain ⟨n, rfl⟩ : ∃ n : Nat, y = n := ⟨y.toNat, by omega⟩
    have hn : n < 16 := by omega
    have hall : ∀ n : Nat, n < 16 → Int32.ofInt 1 <<< (Int32.ofInt (n : Int) &&& 31) = Int32.ofInt ((2 ^ n : Nat) : Int) ∧ 2 ^ n ≤ 32768 := by decide
    have hr : sm_r ((2 ^ (n : Int).toNat : Nat) : Int) := by
      rw [Int.toNat_natCast]
      have hp := (hall n hn).2
      generalize 2 ^ n = k2 at hp ⊢
      exact ⟨by omega, by omega⟩
    have k := hN _ _ _ _ _ h H locs lsA hR hS hL ho (sm_ok_cons hr hst)
    refine lv_ishl hx hb hd ?_
    have k' : W p l e R s m args below meth c H locs kc qc Q (F0 m (pc + 1) lsA (.int (Int32.ofInt ((2 ^ (n : Int).toNat : Nat) : Int)) :: st.map (sm_ev b sb))) := k
    rw [Int.toNat_natCast, ← (hall n hn).1] at k'
    exact k'
  · exact h.elim

theorem sd_obj {idx : Nat} (hlv : 1 ≤ lev) (hl : Cond.methodLink own idx Lib.objectInit ∈ sm_tbl) (hi : Cond.instanceMethod Lib.objectInit ∈ sm_tbl) (hc : Cond.code Lib.objectInit ⟨#[0xb1]⟩ 1 none ∈ sm_tbl) (hd : decode cc pc = .ok (.invokespecial idx, 3)) : sm_Snd l own nm cc nL z lev pc (pc + 3) (oObj) := by
  intro p e R s m args below meth c Q b sb D cA H0 P hC Nx J hN hJ ls st w kc qc h
  obtain ⟨hx, hb, hml, hown, hts, hK, hbH, hRc, hRs, hRf, hRl, hnm, hEx, hI, hV⟩ := id hC
  dsimp only [oObj] at h
  split at h
  · next a st =>
    obtain ⟨h1, h⟩ := h
    intro H locs lsA hR hS hL ho hs
    refine W.objInit hx hb hown (hts _ hl) (hts _ hi) (hts _ hc) (g := F0 m pc lsA ((.inr (.inl a) :: st).map (sm_ev b sb))) rfl (by rw [hml]; exact hL.1) (rest := st.map (sm_ev b sb)) rfl hd (by omega) ?_ (hN _ _ _ _ _ h H locs lsA hR hS hL ho (sm_ok_tl hs))
    have := lv_room (pc := pc) (ls := lsA) (rest := ((.inr (.inl a) :: st).map (sm_ev b sb))) (m := m) (st := st.map (sm_ev b sb)) (by rw [sm_wds_map]; exact h1)
    omega
  · exact h.elim

theorem sd_new {ci N idx : Nat} {C : String} {T : u_T} (hcl : sm_Cl ci C T N) (hl : Cond.classLink own idx C ∈ sm_tbl) (hi : Cond.instantiable C N ∈ sm_tbl) (hn : Cond.initialized C ∈ sm_tbl) (hd : decode cc pc = .ok (.new idx, 3)) : sm_Snd l own nm cc nL z lev pc (pc + 3) (oNew ci N) := by
  intro p e R s m args below meth c Q b sb D cA H0 P hC Nx J hN hJ ls st w kc qc h
  obtain ⟨hx, hb, hml, hown, hts, hK, hbH, hRc, hRs, hRf, hRl, hnm, hEx, hI, hV⟩ := id hC
  dsimp only [oNew] at h
  obtain ⟨h1, h2, h3, h⟩ := h
  intro H locs lsA hR hS hL ho hs
  have hKn := hK.1 ci _ hcl.1
  refine W.newcK hx hb hown (hts _ hl) (hts _ hi) (hts _ hn) (g := F0 m pc lsA (st.map (sm_ev b sb))) rfl hd (by rw [hRc]; exact h2) (by rw [hRs]; exact h3) hKn.2.1 rfl fun H1 kC hkC e1 z1 o1 => ?_
  have hz := hR.2.1
  have hrep : sm_Rep b sb D cA (wNw w ci N) s H1 := by
    refine sm_add hR h1 rfl (fun id hne => by show (if id = w.1 then _ else _) = _; rw [if_neg hne]; rfl) (fun id i => by show sm_r (if id = w.1 then _ else _); split; exact i3_0; exact hR.2.2.2.1 id i) (fun id hne => sm_E_congr (by show (if id = w.1 then _ else _) = _; rw [if_neg hne]; rfl) (fun i => by show (if id = w.1 then _ else _) = _; rw [if_neg hne]; rfl) (fun i => by show (if id = w.1 then _ else _) = _; rw [if_neg hne]; rfl)) (fun i => by show (if 1000 = w.1 then _ else _) = _; rw [if_neg (by omega)]; rfl) ?_ z1 o1
    rw [sm_E_o (w := wNw w ci N) (a := w.1) (ci := ci) (N := N) (by show (if w.1 = w.1 then _ else _) = _; rw [if_pos rfl]) hcl.2.1]
    refine ⟨_, hcl.1, ?_⟩
    rw [show sm_ea b sb w.1 = H.size by rw [sm_ea_lt h1, hz]]
    refine (u_born (sm_ty ci) hts hcl.2.2.1 hKn hkC e1 hcl.2.2.2.1).to (fun j hj => ?_)
    rw [hcl.2.2.2.2.2.2 j hj]
    show _ = ((List.range N).map (sm_fv b sb (wNw w ci N) w.1 ci)).getD j .null
    rw [List.getD_eq_getElem?_getD, List.getElem?_map, List.getElem?_range hj]
    show _ = sm_fv b sb (wNw w ci N) w.1 ci j
    unfold sm_fv
    have hwr : wR (wNw w ci N) w.1 j = none := by show (if w.1 = w.1 then _ else _) = _; rw [if_pos rfl]
    have hwi : wI (wNw w ci N) w.1 j = 0 := by show (if w.1 = w.1 then _ else _) = _; rw [if_pos rfl]
    rw [hwr, hwi]
    rfl
  have k := hN _ _ _ _ _ h H1 locs lsA hrep ⟨Nat.le_trans hS.1 (by omega), fun x h1 h2 => (o1 x (Nat.lt_of_lt_of_le h1 hS.1)).trans (hS.2.1 x h1 h2), hS.2.2⟩ hL ho (sm_ok_cons (v := .inr (.inl w.1)) trivial hs)
  have e : sm_ev b sb (.inr (.inl w.1)) = .ref H.size := by show Value.ref (sm_ea b sb w.1) = _; rw [sm_ea_lt h1, hz]
  rw [List.map_cons, e] at k
  exact k

theorem sd_newa_i (harr : Cond.arrayClass .int ∈ sm_tbl) (hd : decode cc pc = .ok (.newarray .int, 2)) : sm_Snd l own nm cc nL z lev pc (pc + 2) (oNa 9) := by
  intro p e R s m args below meth c Q b sb D cA H0 P hC Nx J hN hJ ls st w kc qc h
  obtain ⟨hx, hb, hml, hown, hts, hK, hbH, hRc, hRs, hRf, hRl, hnm, hEx, hI, hV⟩ := id hC
  dsimp only [oNa] at h
  split at h
  · next n st =>
    obtain ⟨h0, h00, h1, h2, h3, h⟩ := h
    intro H locs lsA hR hS hL ho hs
    have hnr : sm_r n := sm_ok_hd hs
    have hz := hR.2.1
    have hby : n.toNat * componentBytes (newarray.typeOf .int) ≤ 536870912 := by
      have hcb : componentBytes (newarray.typeOf .int) ≤ 8 := by decide
      exact Nat.le_trans (Nat.mul_le_mul_left _ hcb) (by omega)
    refine va_newaK hx hb (atype := .int) (hts _ harr) (g := F0 m pc lsA ((.inl n :: st).map (sm_ev b sb))) rfl hd (n := Int32.ofInt n) rfl (by rw [i3_z, i3_lt hnr i3_0]; omega) (i3_cN hnr) hby (by rw [hRc]; exact h2) (by rw [hRs]; exact h3) rfl fun H1 cA' e1 z1 o1 hAr hNm => ?_
    have hcls : cA' = cA (9 - 9) := by
      have := (hK.2 (9 - 9) _ rfl).2
      exact Option.some.inj (hNm.symm.trans this)
    subst hcls
    have hrep : sm_Rep b sb D cA (wNw w 9 n.toNat) s H1 := by
      refine sm_add hR h1 rfl (fun id hne => by show (if id = w.1 then _ else _) = _; rw [if_neg hne]; rfl) (fun id i => by show sm_r (if id = w.1 then _ else _); split; exact i3_0; exact hR.2.2.2.1 id i) (fun id hne => sm_E_congr (by show (if id = w.1 then _ else _) = _; rw [if_neg hne]; rfl) (fun i => by show (if id = w.1 then _ else _) = _; rw [if_neg hne]; rfl) (fun i => by show (if id = w.1 then _ else _) = _; rw [if_neg hne]; rfl)) (fun i => by show (if 1000 = w.1 then _ else _) = _; rw [if_neg (by omega)]; rfl) ?_ z1 o1
      have hws : wS (wNw w 9 n.toNat) w.1 = (9, n.toNat) := by show (if w.1 = w.1 then _ else _) = _; rw [if_pos rfl]
      rw [sm_E_i (w := wNw w 9 n.toNat) (a := w.1) (kd := 9) (by rw [hws]) (by decide) (by decide), hws]
      show H1[sm_ea b sb w.1]? = some (vp_cell _ _)
      rw [sm_ea_lt h1, ← hz, e1, vp_cell_i]
      congr 2
      funext j
      have hwi : wI (wNw w 9 n.toNat) w.1 j = 0 := by show (if w.1 = w.1 then _ else _) = _; rw [if_pos rfl]
      rw [hwi]
      rfl
    have k := hN _ _ _ _ _ h H1 locs lsA hrep ⟨Nat.le_trans hS.1 (by omega), fun x h1 h2 => (o1 x (Nat.lt_of_lt_of_le h1 hS.1)).trans (hS.2.1 x h1 h2), hS.2.2⟩ hL ho (sm_ok_cons (v := .inr (.inl w.1)) trivial (sm_ok_tl hs))
    have e : sm_ev b sb (.inr (.inl w.1)) = .ref H.size := by show Value.ref (sm_ea b sb w.1) = _; rw [sm_ea_lt h1, hz]
    rw [List.map_cons, e] at k
    exact k
  · exact h.elim

theorem sd_newa_z (harr : Cond.arrayClass .boolean ∈ sm_tbl) (hd : decode cc pc = .ok (.newarray .boolean, 2)) : sm_Snd l own nm cc nL z lev pc (pc + 2) (oNa 10) := by
  intro p e R s m args below meth c Q b sb D cA H0 P hC Nx J hN hJ ls st w kc qc h
  obtain ⟨hx, hb, hml, hown, hts, hK, hbH, hRc, hRs, hRf, hRl, hnm, hEx, hI, hV⟩ := id hC
  dsimp only [oNa] at h
  split at h
  · next n st =>
    obtain ⟨h0, h00, h1, h2, h3, h⟩ := h
    intro H locs lsA hR hS hL ho hs
    have hnr : sm_r n := sm_ok_hd hs
    have hz := hR.2.1
    have hby : n.toNat * componentBytes (newarray.typeOf .boolean) ≤ 536870912 := by
      have hcb : componentBytes (newarray.typeOf .boolean) ≤ 8 := by decide
      exact Nat.le_trans (Nat.mul_le_mul_left _ hcb) (by omega)
    refine va_newaK hx hb (atype := .boolean) (hts _ harr) (g := F0 m pc lsA ((.inl n :: st).map (sm_ev b sb))) rfl hd (n := Int32.ofInt n) rfl (by rw [i3_z, i3_lt hnr i3_0]; omega) (i3_cN hnr) hby (by rw [hRc]; exact h2) (by rw [hRs]; exact h3) rfl fun H1 cA' e1 z1 o1 hAr hNm => ?_
    have hcls : cA' = cA (10 - 9) := by
      have := (hK.2 (10 - 9) _ rfl).2
      exact Option.some.inj (hNm.symm.trans this)
    subst hcls
    have hrep : sm_Rep b sb D cA (wNw w 10 n.toNat) s H1 := by
      refine sm_add hR h1 rfl (fun id hne => by show (if id = w.1 then _ else _) = _; rw [if_neg hne]; rfl) (fun id i => by show sm_r (if id = w.1 then _ else _); split; exact i3_0; exact hR.2.2.2.1 id i) (fun id hne => sm_E_congr (by show (if id = w.1 then _ else _) = _; rw [if_neg hne]; rfl) (fun i => by show (if id = w.1 then _ else _) = _; rw [if_neg hne]; rfl) (fun i => by show (if id = w.1 then _ else _) = _; rw [if_neg hne]; rfl)) (fun i => by show (if 1000 = w.1 then _ else _) = _; rw [if_neg (by omega)]; rfl) ?_ z1 o1
      have hws : wS (wNw w 10 n.toNat) w.1 = (10, n.toNat) := by show (if w.1 = w.1 then _ else _) = _; rw [if_pos rfl]
      rw [sm_E_i (w := wNw w 10 n.toNat) (a := w.1) (kd := 10) (by rw [hws]) (by decide) (by decide), hws]
      show H1[sm_ea b sb w.1]? = some (vp_cell _ _)
      rw [sm_ea_lt h1, ← hz, e1, vp_cell_i]
      congr 2
      funext j
      have hwi : wI (wNw w 10 n.toNat) w.1 j = 0 := by show (if w.1 = w.1 then _ else _) = _; rw [if_pos rfl]
      rw [hwi]
      rfl
    have k := hN _ _ _ _ _ h H1 locs lsA hrep ⟨Nat.le_trans hS.1 (by omega), fun x h1 h2 => (o1 x (Nat.lt_of_lt_of_le h1 hS.1)).trans (hS.2.1 x h1 h2), hS.2.2⟩ hL ho (sm_ok_cons (v := .inr (.inl w.1)) trivial (sm_ok_tl hs))
    have e : sm_ev b sb (.inr (.inl w.1)) = .ref H.size := by show Value.ref (sm_ea b sb w.1) = _; rw [sm_ea_lt h1, hz]
    rw [List.map_cons, e] at k
    exact k
  · exact h.elim

theorem sd_newa_c (harr : Cond.arrayClass .char ∈ sm_tbl) (hd : decode cc pc = .ok (.newarray .char, 2)) : sm_Snd l own nm cc nL z lev pc (pc + 2) (oNa 11) := by
  intro p e R s m args below meth c Q b sb D cA H0 P hC Nx J hN hJ ls st w kc qc h
  obtain ⟨hx, hb, hml, hown, hts, hK, hbH, hRc, hRs, hRf, hRl, hnm, hEx, hI, hV⟩ := id hC
  dsimp only [oNa] at h
  split at h
  · next n st =>
    obtain ⟨h0, h00, h1, h2, h3, h⟩ := h
    intro H locs lsA hR hS hL ho hs
    have hnr : sm_r n := sm_ok_hd hs
    have hz := hR.2.1
    have hby : n.toNat * componentBytes (newarray.typeOf .char) ≤ 536870912 := by
      have hcb : componentBytes (newarray.typeOf .char) ≤ 8 := by decide
      exact Nat.le_trans (Nat.mul_le_mul_left _ hcb) (by omega)
    refine va_newaK hx hb (atype := .char) (hts _ harr) (g := F0 m pc lsA ((.inl n :: st).map (sm_ev b sb))) rfl hd (n := Int32.ofInt n) rfl (by rw [i3_z, i3_lt hnr i3_0]; omega) (i3_cN hnr) hby (by rw [hRc]; exact h2) (by rw [hRs]; exact h3) rfl fun H1 cA' e1 z1 o1 hAr hNm => ?_
    have hcls : cA' = cA (11 - 9) := by
      have := (hK.2 (11 - 9) _ rfl).2
      exact Option.some.inj (hNm.symm.trans this)
    subst hcls
    have hrep : sm_Rep b sb D cA (wNw w 11 n.toNat) s H1 := by
      refine sm_add hR h1 rfl (fun id hne => by show (if id = w.1 then _ else _) = _; rw [if_neg hne]; rfl) (fun id i => by show sm_r (if id = w.1 then _ else _); split; exact i3_0; exact hR.2.2.2.1 id i) (fun id hne => sm_E_congr (by show (if id = w.1 then _ else _) = _; rw [if_neg hne]; rfl) (fun i => by show (if id = w.1 then _ else _) = _; rw [if_neg hne]; rfl) (fun i => by show (if id = w.1 then _ else _) = _; rw [if_neg hne]; rfl)) (fun i => by show (if 1000 = w.1 then _ else _) = _; rw [if_neg (by omega)]; rfl) ?_ z1 o1
      have hws : wS (wNw w 11 n.toNat) w.1 = (11, n.toNat) := by show (if w.1 = w.1 then _ else _) = _; rw [if_pos rfl]
      rw [sm_E_i (w := wNw w 11 n.toNat) (a := w.1) (kd := 11) (by rw [hws]) (by decide) (by decide), hws]
      show H1[sm_ea b sb w.1]? = some (vp_cell _ _)
      rw [sm_ea_lt h1, ← hz, e1, vp_cell_i]
      congr 2
      funext j
      have hwi : wI (wNw w 11 n.toNat) w.1 j = 0 := by show (if w.1 = w.1 then _ else _) = _; rw [if_pos rfl]
      rw [hwi]
      rfl
    have k := hN _ _ _ _ _ h H1 locs lsA hrep ⟨Nat.le_trans hS.1 (by omega), fun x h1 h2 => (o1 x (Nat.lt_of_lt_of_le h1 hS.1)).trans (hS.2.1 x h1 h2), hS.2.2⟩ hL ho (sm_ok_cons (v := .inr (.inl w.1)) trivial (sm_ok_tl hs))
    have e : sm_ev b sb (.inr (.inl w.1)) = .ref H.size := by show Value.ref (sm_ea b sb w.1) = _; rw [sm_ea_lt h1, hz]
    rw [List.map_cons, e] at k
    exact k
  · exact h.elim

theorem sd_anew {idx : Nat} (hl : Cond.classLink own idx RX2 ∈ sm_tbl) (hd : decode cc pc = .ok (.anewarray idx, 3)) : sm_Snd l own nm cc nL z lev pc (pc + 3) (oNa 12) := by
  intro p e R s m args below meth c Q b sb D cA H0 P hC Nx J hN hJ ls st w kc qc h
  obtain ⟨hx, hb, hml, hown, hts, hK, hbH, hRc, hRs, hRf, hRl, hnm, hEx, hI, hV⟩ := id hC
  dsimp only [oNa] at h
  split at h
  · next n st =>
    obtain ⟨h0, h00, h1, h2, h3, h⟩ := h
    intro H locs lsA hR hS hL ho hs
    have hnr : sm_r n := sm_ok_hd hs
    have hz := hR.2.1
    have hcN := i3_cN hnr
    refine W.anew hx hb hown (hts _ hl) hEx.1.use (g := F0 m pc lsA ((.inl n :: st).map (sm_ev b sb))) rfl hd (n := Int32.ofInt n) rfl (by rw [i3_z, i3_lt hnr i3_0]; omega) (by omega) (by rw [hRc]; exact h2) (by rw [hcN, hRs]; exact h3) fun cA' kA comp f1 f2 f3 f4 => ?_
    rw [hcN]
    generalize hH1 : H.push ({ cls := cA', slots := Array.replicate n.toNat .null, vm := .none } : Cell) = H1
    have z1 : H1.size = H.size + 1 := by rw [← hH1, Array.size_push]
    have e1 : H1[H.size]? = some (arrV cA' n.toNat (fun _ => .null)) := by rw [← hH1, Array.getElem?_push_size, ← arrV_new]
    have o1 : ∀ q : Nat, q < H.size → H1[q]? = H[q]? := fun q hq => by rw [← hH1, Array.getElem?_push, if_neg (Nat.ne_of_lt hq)]
    have hcls : cA' = cA 3 := by
      obtain ⟨_, _, -, -, -, g4⟩ := (hK.2 3 _ rfl).2
      exact Option.some.inj (f1.symm.trans g4)
    subst hcls
    have hrep : sm_Rep b sb D cA (wNw w 12 n.toNat) s H1 := by
      refine sm_add hR h1 rfl (fun id hne => by show (if id = w.1 then _ else _) = _; rw [if_neg hne]; rfl) (fun id i => by show sm_r (if id = w.1 then _ else _); split; exact i3_0; exact hR.2.2.2.1 id i) (fun id hne => sm_E_congr (by show (if id = w.1 then _ else _) = _; rw [if_neg hne]; rfl) (fun i => by show (if id = w.1 then _ else _) = _; rw [if_neg hne]; rfl) (fun i => by show (if id = w.1 then _ else _) = _; rw [if_neg hne]; rfl)) (fun i => by show (if 1000 = w.1 then _ else _) = _; rw [if_neg (by omega)]; rfl) ?_ z1 o1
      have hws : wS (wNw w 12 n.toNat) w.1 = (12, n.toNat) := by show (if w.1 = w.1 then _ else _) = _; rw [if_pos rfl]
      rw [sm_E_r (w := wNw w 12 n.toNat) (a := w.1) (kd := 12) (by rw [hws]) (by decide), hws]
      show H1[sm_ea b sb w.1]? = some (vp_cell _ _)
      rw [sm_ea_lt h1, ← hz, e1, vp_cell_q]
      congr 2
      funext j
      have hwi : wR (wNw w 12 n.toNat) w.1 j = none := by show (if w.1 = w.1 then _ else _) = _; rw [if_pos rfl]
      rw [hwi]
      rfl
    have k := hN _ _ _ _ _ h H1 locs lsA hrep ⟨Nat.le_trans hS.1 (by omega), fun x h1 h2 => (o1 x (Nat.lt_of_lt_of_le h1 hS.1)).trans (hS.2.1 x h1 h2), hS.2.2⟩ hL ho (sm_ok_cons (v := .inr (.inl w.1)) trivial (sm_ok_tl hs))
    have e : sm_ev b sb (.inr (.inl w.1)) = .ref H.size := by show Value.ref (sm_ea b sb w.1) = _; rw [sm_ea_lt h1, hz]
    rw [List.map_cons, e] at k
    exact k
  · exact h.elim

theorem sd_copy {idx : Nat} (hlv : 1 ≤ lev) (hl : Cond.methodLink own idx arraycopyName ∈ sm_tbl) (h1t : Cond.native arraycopyName ∈ sm_tbl) (h2t : Cond.static arraycopyName ∈ sm_tbl) (h3t : Cond.initialized "java/lang/System" ∈ sm_tbl) (hd : decode cc pc = .ok (.invokestatic idx, 3)) : sm_Snd l own nm cc nL z lev pc (pc + 3) (oCopy) := by
  intro p e R s m args below meth c Q b sb D cA H0 P hC Nx J hN hJ ls st w kc qc h
  obtain ⟨hx, hb, hml, hown, hts, hK, hbH, hRc, hRs, hRf, hRl, hnm, hEx, hI, hV⟩ := id hC
  dsimp only [oCopy] at h
  split at h
  · next n dp d sp a st =>
    obtain ⟨h1, h2, h3, h4, h5, h6, h7, h8, h⟩ := h
    subst h3
    subst h4
    intro H locs lsA hR hS hL ho hs
    have hnr : sm_r n := sm_ok_hd hs
    have hst := sm_ok_tl (sm_ok_tl (sm_ok_tl (sm_ok_tl (sm_ok_tl hs))))
    have ha := sm_lt hR (a := a) (by rw [h1]; decide)
    have hdl := sm_lt hR (a := d) (by rw [h2]; decide)
    have hc0 := hR.2.2.1 a _ (sm_ws_get ha)
    rw [sm_E_i h1 (by decide) (by decide)] at hc0
    have hc1 := hR.2.2.1 d _ (sm_ws_get hdl)
    rw [sm_E_i h2 (by decide) (by decide)] at hc1
    have hc0 : H[sm_ea b sb a]? = some (vp_cell (cA 0) ((wS w a).2, .inl (fun j : Nat => Int32.ofInt (wI w a j)))) := hc0
    have hc1 : H[sm_ea b sb d]? = some (vp_cell (cA 0) ((wS w d).2, .inl (fun j : Nat => Int32.ofInt (wI w d j)))) := hc1
    have hcN := i3_cN hnr
    have hn0 : ¬ Int32.ofInt n < 0 := by rw [i3_z, i3_lt hnr i3_0]; omega
    have hz0 : (Int32.ofInt 0).toNatClampNeg = 0 := rfl
    obtain ⟨-, k0, hk0, cm0, hkk0⟩ := (hK.2 0 (cA 0, .int) rfl).1 (wS w a).2 (fun j : Nat => .int (Int32.ofInt (wI w a j)))
    have hk0 : s.vm.classes[cA 0]? = some k0 := hk0
    intro T hT X
    obtain ⟨vm', X', step⟩ := X.arraycopy hx hown (hts _ hl) (hts _ h1t) (hts _ h2t) (hts _ h3t) (src := sm_ea b sb a) (dst := sm_ea b sb d) (cs := vp_cell (cA 0) ((wS w a).2, .inl (fun j : Nat => Int32.ofInt (wI w a j)))) (cd := vp_cell (cA 0) ((wS w d).2, .inl (fun j : Nat => Int32.ofInt (wI w d j)))) (srcPos := Int32.ofInt 0) (destPos := Int32.ofInt 0) (n := Int32.ofInt n) (by rw [hT]; exact hc0) (by rw [hT]; exact hc1)
      (fun _ h => by cases h) (fun _ h => by cases h) (fun h => by cases h) (fun h => by cases h) hk0 hk0 hkk0 hkk0 rfl (by decide) (by decide) hn0
      (by rw [i3_toInt hnr]; show ¬ _ > ((arrV (cA 0) (wS w a).2 (fun j : Nat => .int (Int32.ofInt (wI w a j)))).slots.size : Int); rw [arrV_size]; show ¬ (0 : Int) + n > _; omega)
      (by rw [i3_toInt hnr]; show ¬ _ > ((arrV (cA 0) (wS w d).2 (fun j : Nat => .int (Int32.ofInt (wI w d j)))).slots.size : Int); rw [arrV_size]; show ¬ (0 : Int) + n > _; omega)
      (fun vm₁ _ i hi => by
        have e : (vp_cell (cA 0) ((wS w a).2, .inl (fun j : Nat => Int32.ofInt (wI w a j)))).slots.getD ((Int32.ofInt 0).toNatClampNeg + i) .null = .int (Int32.ofInt (wI w a (((Int32.ofInt 0).toNatClampNeg + i : Nat) : Int))) := by
          show (arrV (cA 0) (wS w a).2 (fun j : Nat => .int (Int32.ofInt (wI w a j)))).slots.getD _ _ = _
          rw [Array.getD_eq_getD_getElem?, arrV_read _ _ (by rw [hz0]; rw [hcN] at hi; omega)]
          rfl
        refine ⟨?_, ?_⟩
        · rw [e]
          rfl
        · rw [e]
          exact trivial)
      (g := F0 m pc lsA ((.inl n :: .inl 0 :: .inr (.inl d) :: .inl 0 :: .inr (.inl a) :: st).map (sm_ev b sb))) rfl (by rw [hml]; exact hL.1) (rest := st.map (sm_ev b sb)) rfl (by rw [hb]; exact hd) (by omega) (by
        have h9 : ((st.map (sm_ev b sb)).map fun v => v.category).sum ≤ 8 := by rw [sm_wds_map]; exact h8
        have h10 : nativeFrameWords "java/lang/System" "arraycopy" 5 = 7 := by decide
        show 2 * 0 + _ + _ ≤ _
        rw [h10]
        omega)
    have e1 : copied (vp_cell (cA 0) ((wS w a).2, .inl (fun j : Nat => Int32.ofInt (wI w a j)))) (vp_cell (cA 0) ((wS w d).2, .inl (fun j : Nat => Int32.ofInt (wI w d j)))) (Int32.ofInt 0) (Int32.ofInt 0) (Int32.ofInt n) = vp_cell (cA 0) ((wS w d).2, .inl (fun j : Nat => Int32.ofInt (wI (wCp w a d n) d j))) := by
      have e0 : copied (vp_cell (cA 0) ((wS w a).2, .inl (fun j : Nat => Int32.ofInt (wI w a j)))) (vp_cell (cA 0) ((wS w d).2, .inl (fun j : Nat => Int32.ofInt (wI w d j)))) (Int32.ofInt 0) (Int32.ofInt 0) (Int32.ofInt n) = vp_cell (cA 0) ((wS w d).2, .inl (va_cpy (fun j : Nat => Int32.ofInt (wI w a j)) (fun j : Nat => Int32.ofInt (wI w d j)) (Int32.ofInt 0).toNatClampNeg (Int32.ofInt 0).toNatClampNeg (Int32.ofInt n).toNatClampNeg)) := va_copied (fun z => Value.int z) (cA 0) (cA 0) (n0 := (wS w a).2) (n1 := (wS w d).2) (fun j : Nat => Int32.ofInt (wI w a j)) (fun j : Nat => Int32.ofInt (wI w d j)) (by rw [hcN, hz0]; omega)
      rw [e0, hcN, hz0]
      congr 2
      refine congrArg Sum.inl (funext fun j => ?_)
      unfold va_cpy
      rw [wI_wCp]
      by_cases hj : (j : Int) < n
      · rw [if_pos ⟨by omega, by omega⟩, if_pos ⟨rfl, by omega, hj⟩]
        rw [show 0 + (j - 0) = j by omega]
      · rw [if_neg (by omega), if_neg (fun e => hj e.2.2)]
    rw [e1] at X' step
    have hl : sm_ea b sb d < H.size := (Array.getElem?_eq_some_iff.mp hc1).1
    have hheap : ((T.setVm vm').setCell (sm_ea b sb d) (vp_cell (cA 0) ((wS w d).2, .inl (fun j : Nat => Int32.ofInt (wI (wCp w a d n) d j))))).heap = H.setIfInBounds (sm_ea b sb d) (vp_cell (cA 0) ((wS w d).2, .inl (fun j : Nat => Int32.ofInt (wI (wCp w a d n) d j)))) := by rw [← hT]; rfl
    generalize hH1 : H.setIfInBounds (sm_ea b sb d) (vp_cell (cA 0) ((wS w d).2, .inl (fun j : Nat => Int32.ofInt (wI (wCp w a d n) d j)))) = H1 at hheap
    have g1 : H1[sm_ea b sb d]? = some (vp_cell (cA 0) ((wS w d).2, .inl (fun j : Nat => Int32.ofInt (wI (wCp w a d n) d j)))) := by rw [← hH1]; simp [Array.getElem?_setIfInBounds, hl]
    have g2 : H1.size = H.size := by rw [← hH1]; simp
    have g3 : ∀ q : Nat, q ≠ sm_ea b sb d → H1[q]? = H[q]? := fun q hq => by rw [← hH1]; simp [Array.getElem?_setIfInBounds, Ne.symm hq]
    have hoff : ∀ id, id ≠ d → ∀ j, wI (wCp w a d n) id j = wI w id j := fun id hne j => by rw [wI_wCp, if_neg (fun e => hne e.1)]
    have hrep : sm_Rep b sb D cA (wCp w a d n) s H1 := by
      refine sm_put hR hdl rfl (fun _ => rfl) (fun id j => by rw [wI_wCp]; split; exact hR.2.2.2.1 a j; exact hR.2.2.2.1 id j) (fun id hne => sm_E_congr rfl (hoff id hne) (fun _ => rfl)) (hoff 1000 (by have := hR.1; omega)) ?_ g2 g3
      rw [sm_E_i (w := wCp w a d n) h2 (by decide) (by decide)]
      exact g1
    obtain ⟨t, a1, b1⟩ := hN _ _ _ _ _ h H1 _ lsA hrep ⟨by rw [g2]; exact hS.1, fun q q1 q2 => by rw [g3 q (fun e => q2 (by rw [e]; exact sm_A hR hdl))]; exact hS.2.1 q q1 q2, fun q hq => by
      rcases List.mem_append.mp hq with h | h
      · exact hS.2.2 q h
      · obtain ⟨z, -, hz⟩ := List.mem_map.mp h
        rw [← hz]
        exact sm_A hR hdl⟩ hL ho hst _ hheap X'
    exact ⟨t, step t a1, b1⟩
  · exact h.elim

theorem sd_fg {i : Nat} : sm_Snd l own nm cc nL z lev pc (pc) (oFg i) := by
  intro p e R s m args below meth c Q b sb D cA H0 P hC Nx J hN hJ ls st w kc qc h
  obtain ⟨hx, hb, hml, hown, hts, hK, hbH, hRc, hRs, hRf, hRl, hnm, hEx, hI, hV⟩ := id hC
  intro H locs lsA hR hS hL ho hs
  refine hN _ _ _ _ _ h H locs lsA hR hS ⟨hL.1, by rw [List.length_set]; exact hL.2.1, hL.2.2.1, fun j v hj => ?_⟩ (sm_ok_setN ho) hs
  rw [List.getElem?_set] at hj
  by_cases e : i = j
  · subst e
    rw [if_pos rfl] at hj
    split at hj <;> cases hj
  · rw [if_neg e] at hj
    exact hL.2.2.2 j v hj

end
end
section
/-! BLOCKS, RUNS, AND A METHOD'S CONTRACT OUT OF A RUN -/
def sm_SndB (l : Launch) (own nm : String) (cc : ByteArray) (nL : Nat) (z : Nat) (lev : Nat) (pc : Nat) (os : List sm_O) : Prop :=
  ∀ (p : Program) (e : Env) (R : Room) (s : State) (m : MethodId) (args : Array Value) (below : List Frame) (meth : Method) (c : Code) (Q : State → Prop) (b sb : Nat) (D : va_G) (cA : Nat → ClassId) (H0 : Heap) (P : sm_Par), sm_Cx p l e R s m args below meth c Q b sb D cA H0 nL own nm cc z lev P →
  ∀ (J : Nat → sm_K), (∀ t ls st w k q, J t ls st w k q → sm_Wz p l e R s m args below meth c Q b sb D cA H0 nL t ls st w k q) →
  ∀ ls st w k q, sm_blk P J os ls st w k q → sm_Wz p l e R s m args below meth c Q b sb D cA H0 nL pc ls st w k q
section
variable {l : Launch} {own nm : String} {cc : ByteArray} {nL : Nat} {z : Nat} {lev : Nat}
theorem sb_nil {pc : Nat} : sm_SndB l own nm cc nL z lev pc [] := fun p e R s m args below meth c Q b sb D cA H0 P hC J hJ ls st w k q h => h.elim
theorem sb_cons {pc pc' : Nat} {o : sm_O} {os : List sm_O} (h1 : sm_Snd l own nm cc nL z lev pc pc' o) (h2 : sm_SndB l own nm cc nL z lev pc' os) : sm_SndB l own nm cc nL z lev pc (o :: os) :=
  fun p e R s m args below meth c Q b sb D cA H0 P hC J hJ ls st w k q h => h1 p e R s m args below meth c Q b sb D cA H0 P hC (sm_blk P J os) J (h2 p e R s m args below meth c Q b sb D cA H0 P hC J hJ) hJ ls st w k q h
def sm_get : List (Nat × List sm_O) → Nat → List sm_O
  | [], _ => []
  | (k, os) :: r, t => match Nat.beq t k with
    | true => os
    | false => sm_get r t
def sm_SndT (l : Launch) (own nm : String) (cc : ByteArray) (nL : Nat) (z : Nat) (lev : Nat) (tb : List (Nat × List sm_O)) : Prop := ∀ t, sm_SndB l own nm cc nL z lev t (sm_get tb t)
theorem st_nil : sm_SndT l own nm cc nL z lev [] := fun _ => sb_nil
theorem st_cons {k : Nat} {os : List sm_O} {r : List (Nat × List sm_O)} (h1 : sm_SndB l own nm cc nL z lev k os) (h2 : sm_SndT l own nm cc nL z lev r) : sm_SndT l own nm cc nL z lev ((k, os) :: r) := by
  intro t
  unfold sm_get
  split
  · next h =>
    rw [Nat.eq_of_beq_eq_true h]
    exact h1
  · exact h2 t
theorem sm_run_sound {tb : List (Nat × List sm_O)} (hT : sm_SndT l own nm cc nL z lev tb) {p : Program} {e : Env} {R : Room} {s : State} {m : MethodId} {args : Array Value} {below : List Frame} {meth : Method} {c : Code} {Q : State → Prop} {b sb : Nat} {D : va_G} {cA : Nat → ClassId} {H0 : Heap} {P : sm_Par} (hC : sm_Cx p l e R s m args below meth c Q b sb D cA H0 nL own nm cc z lev P) (stop : Nat → Bool) : ∀ n t ls st w k q, sm_run (sm_get tb) P stop (sm_Wz p l e R s m args below meth c Q b sb D cA H0 nL) n t ls st w k q → sm_Wz p l e R s m args below meth c Q b sb D cA H0 nL t ls st w k q
  | 0, t, ls, st, w, k, q, h => h
  | n + 1, t, ls, st, w, k, q, h => by
    refine hT t p e R s m args below meth c Q b sb D cA H0 P hC _ (fun u ls st w k q hu => ?_) ls st w k q h
    revert hu
    cases stop u with
    | true => exact id
    | false => exact sm_run_sound hT hC stop n u ls st w k q
/-- the locals with which a method begins -/
def sm_ents : List sm_V → List (Option sm_V)
  | [] => []
  | .inr (.inr x) :: r => some (.inr (.inr x)) :: none :: sm_ents r
  | v :: r => some v :: sm_ents r
def sm_ent (nL : Nat) (as : List sm_V) : List (Option sm_V) := sm_ents as ++ List.replicate (nL - sm_wds as) none
theorem sm_ents_len : ∀ as : List sm_V, (sm_ents as).length = sm_wds as
  | [] => rfl
  | .inl n :: r => by
    show (sm_ents r).length + 1 = 1 + sm_wds r
    rw [sm_ents_len r]; omega
  | .inr (.inl a) :: r => by
    show (sm_ents r).length + 1 = 1 + sm_wds r
    rw [sm_ents_len r]; omega
  | .inr (.inr x) :: r => by
    show (sm_ents r).length + 1 + 1 = 2 + sm_wds r
    rw [sm_ents_len r]; omega
theorem sm_ents_at {b sb : Nat} : ∀ (as : List sm_V) (o i : Nat) (v : sm_V), (sm_ents as)[i]? = some (some v) → (o + i, sm_ev b sb v) ∈ lv_args o (as.map (sm_ev b sb))
  | [], o, i, v, h => by simp [sm_ents] at h
  | .inl n :: r, o, i, v, h => by
    rw [List.map_cons, lv_args]
    cases i with
    | zero => cases h; exact List.mem_cons_self
    | succ i =>
      refine List.mem_cons_of_mem _ ?_
      have := sm_ents_at (b := b) (sb := sb) r (o + 1) i v h
      rw [show o + (i + 1) = o + 1 + i by omega]
      exact this
  | .inr (.inl a) :: r, o, i, v, h => by
    rw [List.map_cons, lv_args]
    cases i with
    | zero => cases h; exact List.mem_cons_self
    | succ i =>
      refine List.mem_cons_of_mem _ ?_
      have := sm_ents_at (b := b) (sb := sb) r (o + 1) i v h
      rw [show o + (i + 1) = o + 1 + i by omega]
      exact this
  | .inr (.inr x) :: r, o, i, v, h => by
    rw [List.map_cons, lv_args]
    match i with
    | 0 => cases h; exact List.mem_cons_self
    | 1 => cases h
    | i + 2 =>
      refine List.mem_cons_of_mem _ ?_
      have := sm_ents_at (b := b) (sb := sb) r (o + 2) i v h
      rw [show o + (i + 2) = o + 2 + i by omega]
      exact this
theorem sm_ents_ok {as : List sm_V} (h : ∀ v ∈ as, sm_ok v) : ∀ v, some v ∈ sm_ents as → sm_ok v := by
  induction as with
  | nil => intro v hv; cases hv
  | cons a r ih =>
    intro v hv
    have ih' := ih (fun v hv => h v (List.mem_cons_of_mem _ hv))
    rcases a with n | a | x
    · rcases List.mem_cons.mp hv with e | e
      · cases e; exact h _ List.mem_cons_self
      · exact ih' v e
    · rcases List.mem_cons.mp hv with e | e
      · cases e; exact h _ List.mem_cons_self
      · exact ih' v e
    · rcases List.mem_cons.mp hv with e | e
      · cases e; exact h _ List.mem_cons_self
      · rcases List.mem_cons.mp e with e | e
        · cases e
        · exact ih' v e
theorem sm_entry {b sb : Nat} {as : List sm_V} {lsA : Array Slot} (hw : sm_wds as ≤ nL) (h : lv_has lsA nL (lv_args 0 (as.map (sm_ev b sb)))) : sm_L nL b sb lsA (sm_ent nL as) := by
  refine ⟨h.1, by unfold sm_ent; rw [List.length_append, sm_ents_len, List.length_replicate]; omega, h.2.1, fun i v hi => ?_⟩
  unfold sm_ent at hi
  by_cases hl : i < (sm_ents as).length
  · rw [List.getElem?_append_left hl] at hi
    have := h.2.2 _ (sm_ents_at (b := b) (sb := sb) as 0 i v hi)
    simpa using this
  · rw [List.getElem?_append_right (by omega)] at hi
    have := List.mem_of_getElem? hi
    rw [List.mem_replicate] at this
    cases this.2
theorem sm_lg_len (b sb : Nat) : ∀ as : List sm_V, (lg_sl (as.map (sm_ev b sb))).length = sm_wds as
  | [] => rfl
  | .inl n :: r => by
    show (lg_sl (r.map (sm_ev b sb))).length + 1 = 1 + sm_wds r
    rw [sm_lg_len b sb r]; omega
  | .inr (.inl a) :: r => by
    show (lg_sl (r.map (sm_ev b sb))).length + 1 = 1 + sm_wds r
    rw [sm_lg_len b sb r]; omega
  | .inr (.inr x) :: r => by
    show (lg_sl (r.map (sm_ev b sb))).length + 1 + 1 = 2 + sm_wds r
    rw [sm_lg_len b sb r]; omega
end
/-- what is to be shown of a method in the small machine alone -/
def sm_Ok (tb : List (Nat × List sm_O)) (nL mc ms : Nat) (Pre : List sm_V → sm_W → Prop) (F : sm_F) : Prop :=
  ∀ (as : List sm_V) (w : sm_W), Pre as w → (∀ v ∈ as, sm_ok v) → (∀ id i, sm_r (wI w id i)) → sm_wds as ≤ nL ∧ ∀ Z : Nat → sm_K, (∀ stop n t ls st w' k q, sm_run (sm_get tb) ((fun r w' => (r, w') = F as w), mc, ms) stop Z n t ls st w' k q → Z t ls st w' k q) → Z 0 (sm_ent nL as) [] w 0 0
theorem sm_met {l : Launch} {y : MethodName} {cc : ByteArray} {nL : Nat} {ret : Option FieldType} {lev mc ms : Nat} {Pre : List sm_V → sm_W → Prop} {F : sm_F} {tb : List (Nat × List sm_O)} (z : Nat) (hret : (ret = none ∧ z = 0) ∨ (ret = some .int ∧ z = 1) ∨ (ret = some .boolean ∧ z = 2)) (hy : plainName y.cls = true) (hT : sm_SndT l y.cls y.name cc nL z lev tb) (hO : sm_Ok tb nL mc ms Pre F) : sm_Met l y cc nL ret lev mc ms Pre F := by
  intro b sb D cA as w hPre
  refine Met.ofW (cc := cc) (maxL := nL) (ret := ret) (ws' := sm_tbl) hy rfl ?_
  intro p e s m args below meth c s₁ B hml hP
  obtain ⟨hargs, hR, hK, hEx, hok⟩ := hP
  obtain ⟨hw, hO⟩ := hO as w hPre hok hR.2.2.2.1
  have hts0 : ∀ x ∈ (Cond.code y cc nL ret :: sm_tbl), x.before args s = true := atoms_spec (ws := Cond.code y cc nL ret :: sm_tbl) B.pre
  have hbH : b ≤ s.heap.size := by have := hR.2.1; omega
  have hC : sm_Cx p l e (headSpec (Cond.code y cc nL ret :: sm_tbl) (sm_rm lev mc ms)).room s m args below meth c (MQ below (sm_Qc b sb D cA (F as w)) args s mc ms (fun x => b ≤ x)) b sb D cA s.heap nL y.cls y.name cc z lev ((fun r w' => (r, w') = F as w), mc, ms) := by
    refine ⟨B.exec, B.bytes, hml, findClass_of_methodNamed B.named, fun x hx => hts0 x (List.mem_cons_of_mem _ hx), hK, hbH, rfl, rfl, Nat.le_refl _, Nat.le_refl _, (name_of_methodNamed B.named B.method).1, hEx, ?_, ?_⟩
    · intro pc H locs lsA w' k q n hd hz0 hz hF hn hk hq hR' hS'
      refine W.widen hk hq ?_
      have hr : meth.sig.returnType = ret := B.returns
      rcases hret with ⟨h, h2⟩ | ⟨h, h2⟩ | ⟨h, h2⟩
      · exact absurd h2 hz0
      · exact W.zret B.exec B.bytes (hr.trans h) rfl (fun t ht hW => ⟨by rw [← hF]; rfl, by rw [← hF, ht]; exact hR'.moved hW.alike, by rw [← hF]; intro v hv; cases hv; exact hn, hS'.F ht⟩) hS'.2.2 hd
      · exact W.zret B.exec B.bytes (hr.trans h) (by rcases hz h2 with rfl | rfl <;> rfl) (fun t ht hW => ⟨by rw [← hF]; rfl, by rw [← hF, ht]; exact hR'.moved hW.alike, by rw [← hF]; intro v hv; cases hv; exact hn, hS'.F ht⟩) hS'.2.2 hd
    · intro pc H locs lsA w' k q hd hz0 hF hk hq hR' hS'
      refine W.widen hk hq ?_
      have hr : meth.sig.returnType = ret := B.returns
      rcases hret with ⟨h, h2⟩ | ⟨h, h2⟩ | ⟨h, h2⟩
      · exact W.vret B.exec B.bytes (hr.trans h) (fun t ht hW => ⟨by rw [← hF]; rfl, by rw [← hF, ht]; exact hR'.moved hW.alike, (by rw [← hF]; intro v hv; cases hv), hS'.F ht⟩) hS'.2.2 hd
      · omega
      · omega
  have hZ := hO (sm_Wz p l e (headSpec (Cond.code y cc nL ret :: sm_tbl) (sm_rm lev mc ms)).room s m args below meth c (MQ below (sm_Qc b sb D cA (F as w)) args s mc ms (fun x => b ≤ x)) b sb D cA s.heap nL) (fun stop n t ls st w' k q h => sm_run_sound hT hC stop n t ls st w' k q h)
  subst hargs
  have hl := lv_entry (as.map (sm_ev b sb)) (n := nL) (by rw [sm_lg_len]; exact hw)
  rw [lg_entry_eq]
  generalize (lg_sl (as.map (sm_ev b sb)) ++ List.replicate (nL - (lg_sl (as.map (sm_ev b sb))).length) Slot.unset).toArray = lsA at hl ⊢
  refine hZ s.heap [] lsA hR va_S.rf (sm_entry hw hl) (fun v hv => ?_) (fun v hv => by cases hv)
  unfold sm_ent at hv
  rcases List.mem_append.mp hv with h | h
  · exact sm_ents_ok hok v h
  · rw [List.mem_replicate] at h
    cases h.2
end
section
/-! the classes, by the tables -/
theorem kl_in_0 : ∀ w ∈ u_ws RX0 TX0 11, w ∈ lw_tbl := by
  have h : u_ws RX0 TX0 11 = ([106, 108, 110, 112, 114, 116, 118, 120, 122, 124, 126] : List Nat).filterMap (fun i => tables_1[i]?) := by decide +kernel
  intro w hw
  rw [h] at hw
  obtain ⟨i, -, hi⟩ := List.mem_filterMap.mp hw
  exact List.mem_append_right _ (List.mem_of_getElem? hi)
theorem kl_gd_0 : ∀ w ∈ u_ws RX0 TX0 11, goodWord w = true := by
  have h : (u_ws RX0 TX0 11).all goodWord = true := by decide +kernel
  exact List.all_eq_true.mp h
theorem kl_0 : sm_Cl 0 RX0 TX0 11 := ⟨rfl, by decide, fun w h => sm_in (kl_in_0 w h) (kl_gd_0 w h), fun k hk => tyX0_ok k hk, nmX0, by decide +kernel, by decide +kernel⟩
theorem kl_in_1 : ∀ w ∈ u_ws RX1 TX1 2, w ∈ lw_tbl := by
  have h : u_ws RX1 TX1 2 = ([213, 215] : List Nat).filterMap (fun i => tables_1[i]?) := by decide +kernel
  intro w hw
  rw [h] at hw
  obtain ⟨i, -, hi⟩ := List.mem_filterMap.mp hw
  exact List.mem_append_right _ (List.mem_of_getElem? hi)
theorem kl_gd_1 : ∀ w ∈ u_ws RX1 TX1 2, goodWord w = true := by
  have h : (u_ws RX1 TX1 2).all goodWord = true := by decide +kernel
  exact List.all_eq_true.mp h
theorem kl_1 : sm_Cl 1 RX1 TX1 2 := ⟨rfl, by decide, fun w h => sm_in (kl_in_1 w h) (kl_gd_1 w h), fun k hk => tyX1_ok k hk, nmX1, by decide +kernel, by decide +kernel⟩
theorem kl_in_2 : ∀ w ∈ u_ws RX2 TX2 9, w ∈ lw_tbl := by
  have h : u_ws RX2 TX2 9 = ([63, 65, 67, 69, 71, 73, 75, 77, 79] : List Nat).filterMap (fun i => tables_1[i]?) := by decide +kernel
  intro w hw
  rw [h] at hw
  obtain ⟨i, -, hi⟩ := List.mem_filterMap.mp hw
  exact List.mem_append_right _ (List.mem_of_getElem? hi)
theorem kl_gd_2 : ∀ w ∈ u_ws RX2 TX2 9, goodWord w = true := by
  have h : (u_ws RX2 TX2 9).all goodWord = true := by decide +kernel
  exact List.all_eq_true.mp h
theorem kl_2 : sm_Cl 2 RX2 TX2 9 := ⟨rfl, by decide, fun w h => sm_in (kl_in_2 w h) (kl_gd_2 w h), fun k hk => tyX2_ok k hk, nmX2, by decide +kernel, by decide +kernel⟩
theorem kl_in_3 : ∀ w ∈ u_ws RX3 TX3 2, w ∈ lw_tbl := by
  have h : u_ws RX3 TX3 2 = ([154, 156] : List Nat).filterMap (fun i => tables_1[i]?) := by decide +kernel
  intro w hw
  rw [h] at hw
  obtain ⟨i, -, hi⟩ := List.mem_filterMap.mp hw
  exact List.mem_append_right _ (List.mem_of_getElem? hi)
theorem kl_gd_3 : ∀ w ∈ u_ws RX3 TX3 2, goodWord w = true := by
  have h : (u_ws RX3 TX3 2).all goodWord = true := by decide +kernel
  exact List.all_eq_true.mp h
theorem kl_3 : sm_Cl 3 RX3 TX3 2 := ⟨rfl, by decide, fun w h => sm_in (kl_in_3 w h) (kl_gd_3 w h), fun k hk => tyX3_ok k hk, nmX3, by decide +kernel, by decide +kernel⟩
theorem kl_in_4 : ∀ w ∈ u_ws RX4 TX4 3, w ∈ lw_tbl := by
  have h : u_ws RX4 TX4 3 = ([170, 172, 174] : List Nat).filterMap (fun i => tables_1[i]?) := by decide +kernel
  intro w hw
  rw [h] at hw
  obtain ⟨i, -, hi⟩ := List.mem_filterMap.mp hw
  exact List.mem_append_right _ (List.mem_of_getElem? hi)
theorem kl_gd_4 : ∀ w ∈ u_ws RX4 TX4 3, goodWord w = true := by
  have h : (u_ws RX4 TX4 3).all goodWord = true := by decide +kernel
  exact List.all_eq_true.mp h
theorem kl_4 : sm_Cl 4 RX4 TX4 3 := ⟨rfl, by decide, fun w h => sm_in (kl_in_4 w h) (kl_gd_4 w h), fun k hk => tyX4_ok k hk, nmX4, by decide +kernel, by decide +kernel⟩
theorem kl_in_5 : ∀ w ∈ u_ws RX5 TX5 5, w ∈ lw_tbl := by
  have h : u_ws RX5 TX5 5 = ([189, 191, 193, 195, 197] : List Nat).filterMap (fun i => tables_1[i]?) := by decide +kernel
  intro w hw
  rw [h] at hw
  obtain ⟨i, -, hi⟩ := List.mem_filterMap.mp hw
  exact List.mem_append_right _ (List.mem_of_getElem? hi)
theorem kl_gd_5 : ∀ w ∈ u_ws RX5 TX5 5, goodWord w = true := by
  have h : (u_ws RX5 TX5 5).all goodWord = true := by decide +kernel
  exact List.all_eq_true.mp h
theorem kl_5 : sm_Cl 5 RX5 TX5 5 := ⟨rfl, by decide, fun w h => sm_in (kl_in_5 w h) (kl_gd_5 w h), fun k hk => tyX5_ok k hk, nmX5, by decide +kernel, by decide +kernel⟩
theorem kl_in_6 : ∀ w ∈ u_ws RX6 TX6 2, w ∈ lw_tbl := by
  have h : u_ws RX6 TX6 2 = ([140, 142] : List Nat).filterMap (fun i => tables_1[i]?) := by decide +kernel
  intro w hw
  rw [h] at hw
  obtain ⟨i, -, hi⟩ := List.mem_filterMap.mp hw
  exact List.mem_append_right _ (List.mem_of_getElem? hi)
theorem kl_gd_6 : ∀ w ∈ u_ws RX6 TX6 2, goodWord w = true := by
  have h : (u_ws RX6 TX6 2).all goodWord = true := by decide +kernel
  exact List.all_eq_true.mp h
theorem kl_6 : sm_Cl 6 RX6 TX6 2 := ⟨rfl, by decide, fun w h => sm_in (kl_in_6 w h) (kl_gd_6 w h), fun k hk => tyX6_ok k hk, nmX6, by decide +kernel, by decide +kernel⟩
theorem kl_in_7 : ∀ w ∈ u_ws RX7 TX7 12, w ∈ lw_tbl := by
  have h : u_ws RX7 TX7 12 = ([230, 232, 234, 236, 238, 240, 242, 244, 246, 248, 250, 252] : List Nat).filterMap (fun i => tables_1[i]?) := by decide +kernel
  intro w hw
  rw [h] at hw
  obtain ⟨i, -, hi⟩ := List.mem_filterMap.mp hw
  exact List.mem_append_right _ (List.mem_of_getElem? hi)
theorem kl_gd_7 : ∀ w ∈ u_ws RX7 TX7 12, goodWord w = true := by
  have h : (u_ws RX7 TX7 12).all goodWord = true := by decide +kernel
  exact List.all_eq_true.mp h
theorem kl_7 : sm_Cl 7 RX7 TX7 12 := ⟨rfl, by decide, fun w h => sm_in (kl_in_7 w h) (kl_gd_7 w h), fun k hk => tyX7_ok k hk, nmX7, by decide +kernel, by decide +kernel⟩
theorem kl_in_8 : ∀ w ∈ u_ws RX8 TX8 30, w ∈ lw_tbl := by
  have h : u_ws RX8 TX8 30 = ([725, 727, 729, 731, 733, 735, 737, 739, 741, 743, 745, 747, 749, 751, 753, 755, 757, 759, 761, 763, 765, 767, 769, 771, 773, 775, 777, 779, 781, 783] : List Nat).filterMap (fun i => tables_1[i]?) := by decide +kernel
  intro w hw
  rw [h] at hw
  obtain ⟨i, -, hi⟩ := List.mem_filterMap.mp hw
  exact List.mem_append_right _ (List.mem_of_getElem? hi)
theorem kl_gd_8 : ∀ w ∈ u_ws RX8 TX8 30, goodWord w = true := by
  have h : (u_ws RX8 TX8 30).all goodWord = true := by decide +kernel
  exact List.all_eq_true.mp h
theorem kl_8 : sm_Cl 8 RX8 TX8 30 := ⟨rfl, by decide, fun w h => sm_in (kl_in_8 w h) (kl_gd_8 w h), fun k hk => tyX8_ok k hk, nmX8, by decide +kernel, by decide +kernel⟩
end
section
/-! THE WORLD BEHIND BOTH CONSTRUCTORS: what each object is, and where the references go (but those in the history's row, 87) -/
def sm_shl : List (Nat × Nat) := [(7, 12), (0, 11), (2, 9), (9, 8), (9, 7), (9, 8), (9, 8), (9, 8), (9, 8), (9, 8), (13, 8), (9, 8), (9, 8), (9, 8), (9, 8), (9, 8), (9, 8), (9, 8), (9, 8), (13, 8), (9, 8), (9, 8), (9, 8), (9, 8), (9, 8), (9, 8), (9, 8), (9, 8), (9, 8), (10, 8), (9, 8), (9, 8), (10, 7), (9, 8), (0, 11), (2, 9), (9, 8), (9, 7), (9, 8), (9, 8), (9, 8), (9, 8), (9, 8), (13, 8), (9, 8), (9, 8), (9, 8), (9, 8), (9, 8), (9, 8), (9, 8), (9, 8), (13, 8), (9, 8), (9, 8), (9, 8), (9, 8), (9, 8), (9, 8), (9, 8), (9, 8), (9, 8), (10, 8), (9, 8), (9, 8), (10, 7), (9, 8), (2, 9), (9, 8), (9, 7), (9, 8), (9, 8), (9, 8), (9, 8), (9, 8), (6, 2), (9, 4), (9, 8), (3, 2), (9, 64), (4, 3), (9, 5), (9, 5), (5, 5), (11, 80), (9, 5), (1, 2), (12, 6), (2, 9), (9, 8), (9, 7), (9, 8), (9, 8), (9, 8), (9, 8), (9, 8), (2, 9), (9, 8), (9, 7), (9, 8), (9, 8), (9, 8), (9, 8), (9, 8), (2, 9), (9, 8), (9, 7), (9, 8), (9, 8), (9, 8), (9, 8), (9, 8), (2, 9), (9, 8), (9, 7), (9, 8), (9, 8), (9, 8), (9, 8), (9, 8), (2, 9), (9, 8), (9, 7), (9, 8), (9, 8), (9, 8), (9, 8), (9, 8), (2, 9), (9, 8), (9, 7), (9, 8), (9, 8), (9, 8), (9, 8), (9, 8), (12, 2), (10, 2), (2, 9), (9, 8), (9, 7), (9, 8), (9, 8), (9, 8), (9, 8), (9, 8), (2, 9), (9, 8), (9, 7), (9, 8), (9, 8), (9, 8), (9, 8), (9, 8), (8, 30), (9, 57), (9, 342), (9, 114), (10, 2), (9, 57), (9, 8), (9, 8), (9, 8), (9, 64), (9, 64), (9, 64), (9, 64), (9, 64), (9, 64), (9, 32), (9, 57), (9, 5), (9, 5), (9, 80), (9, 29), (9, 145)]
def sm_rfl : List (Nat × Int × Nat) := [(0, 0, 1), (0, 1, 2), (0, 2, 34), (0, 3, 35), (0, 4, 67), (0, 5, 75), (0, 6, 78), (0, 7, 80), (0, 8, 83), (0, 9, 86), (0, 10, 136), (0, 11, 137), (1, 0, 2), (1, 1, 10), (1, 2, 19), (1, 5, 28), (1, 6, 29), (1, 7, 30), (1, 8, 31), (1, 9, 32), (1, 10, 33), (2, 0, 3), (2, 1, 4), (2, 2, 5), (2, 3, 6), (2, 4, 7), (2, 5, 8), (2, 6, 9), (10, 0, 11), (10, 1, 12), (10, 2, 13), (10, 3, 14), (10, 4, 15), (10, 5, 16), (10, 6, 17), (10, 7, 18), (19, 0, 20), (19, 1, 21), (19, 2, 22), (19, 3, 23), (19, 4, 24), (19, 5, 25), (19, 6, 26), (19, 7, 27), (34, 0, 35), (34, 1, 43), (34, 2, 52), (34, 5, 61), (34, 6, 62), (34, 7, 63), (34, 8, 64), (34, 9, 65), (34, 10, 66), (35, 0, 36), (35, 1, 37), (35, 2, 38), (35, 3, 39), (35, 4, 40), (35, 5, 41), (35, 6, 42), (43, 0, 44), (43, 1, 45), (43, 2, 46), (43, 3, 47), (43, 4, 48), (43, 5, 49), (43, 6, 50), (43, 7, 51), (52, 0, 53), (52, 1, 54), (52, 2, 55), (52, 3, 56), (52, 4, 57), (52, 5, 58), (52, 6, 59), (52, 7, 60), (67, 0, 68), (67, 1, 69), (67, 2, 70), (67, 3, 71), (67, 4, 72), (67, 5, 73), (67, 6, 74), (75, 0, 76), (75, 1, 77), (78, 0, 79), (80, 0, 81), (80, 2, 82), (83, 1, 84), (83, 4, 85), (86, 1, 87), (88, 0, 89), (88, 1, 90), (88, 2, 91), (88, 3, 92), (88, 4, 93), (88, 5, 94), (88, 6, 95), (96, 0, 97), (96, 1, 98), (96, 2, 99), (96, 3, 100), (96, 4, 101), (96, 5, 102), (96, 6, 103), (104, 0, 105), (104, 1, 106), (104, 2, 107), (104, 3, 108), (104, 4, 109), (104, 5, 110), (104, 6, 111), (112, 0, 113), (112, 1, 114), (112, 2, 115), (112, 3, 116), (112, 4, 117), (112, 5, 118), (112, 6, 119), (120, 0, 121), (120, 1, 122), (120, 2, 123), (120, 3, 124), (120, 4, 125), (120, 5, 126), (120, 6, 127), (128, 0, 129), (128, 1, 130), (128, 2, 131), (128, 3, 132), (128, 4, 133), (128, 5, 134), (128, 6, 135), (136, 0, 138), (136, 1, 146), (138, 0, 139), (138, 1, 140), (138, 2, 141), (138, 3, 142), (138, 4, 143), (138, 5, 144), (138, 6, 145), (146, 0, 147), (146, 1, 148), (146, 2, 149), (146, 3, 150), (146, 4, 151), (146, 5, 152), (146, 6, 153), (154, 0, 155), (154, 1, 156), (154, 4, 157), (154, 5, 158), (154, 6, 159), (154, 7, 160), (154, 8, 161), (154, 9, 162), (154, 10, 163), (154, 11, 164), (154, 12, 165), (154, 13, 166), (154, 14, 167), (154, 15, 168), (154, 16, 169), (154, 19, 170), (154, 21, 171), (154, 22, 172), (154, 23, 173), (154, 28, 174), (154, 29, 175)]
def sm_isL (x : Nat) : Prop := x ∈ [2, 35, 67, 88, 96, 104, 112, 120, 128, 138, 146]
def sm_isD (x : Nat) : Prop := x = 1 ∨ x = 34
/-- the shapes, and the references that never change; the history's row holds lines -/
def sT (w : sm_W) : Prop := (∀ a p, sm_shl[a]? = some p → wS w a = p) ∧ (∀ q ∈ sm_rfl, wR w q.1 q.2.1 = some q.2.2) ∧ ∀ i : Int, 0 ≤ i → i < 6 → ∃ x, wR w 87 i = some x ∧ x ∈ [88, 96, 104, 112, 120, 128]
theorem sT_wsI {w : sm_W} {a : Nat} {i v : Int} (h : sT w) : sT (wsI w a i v) := h
theorem sT_wCp {w : sm_W} {a b : Nat} {n : Int} (h : sT w) : sT (wCp w a b n) := h
theorem sS_0 {w : sm_W} (h : sT w) : wS w 0 = (7, 12) := h.1 0 _ rfl
theorem sS_75 {w : sm_W} (h : sT w) : wS w 75 = (6, 2) := h.1 75 _ rfl
theorem sS_76 {w : sm_W} (h : sT w) : wS w 76 = (9, 4) := h.1 76 _ rfl
theorem sS_77 {w : sm_W} (h : sT w) : wS w 77 = (9, 8) := h.1 77 _ rfl
theorem sS_78 {w : sm_W} (h : sT w) : wS w 78 = (3, 2) := h.1 78 _ rfl
theorem sS_79 {w : sm_W} (h : sT w) : wS w 79 = (9, 64) := h.1 79 _ rfl
theorem sS_80 {w : sm_W} (h : sT w) : wS w 80 = (4, 3) := h.1 80 _ rfl
theorem sS_81 {w : sm_W} (h : sT w) : wS w 81 = (9, 5) := h.1 81 _ rfl
theorem sS_82 {w : sm_W} (h : sT w) : wS w 82 = (9, 5) := h.1 82 _ rfl
theorem sS_83 {w : sm_W} (h : sT w) : wS w 83 = (5, 5) := h.1 83 _ rfl
theorem sS_84 {w : sm_W} (h : sT w) : wS w 84 = (11, 80) := h.1 84 _ rfl
theorem sS_85 {w : sm_W} (h : sT w) : wS w 85 = (9, 5) := h.1 85 _ rfl
theorem sS_86 {w : sm_W} (h : sT w) : wS w 86 = (1, 2) := h.1 86 _ rfl
theorem sS_87 {w : sm_W} (h : sT w) : wS w 87 = (12, 6) := h.1 87 _ rfl
theorem sS_136 {w : sm_W} (h : sT w) : wS w 136 = (12, 2) := h.1 136 _ rfl
theorem sS_137 {w : sm_W} (h : sT w) : wS w 137 = (10, 2) := h.1 137 _ rfl
theorem sS_154 {w : sm_W} (h : sT w) : wS w 154 = (8, 30) := h.1 154 _ rfl
theorem sS_155 {w : sm_W} (h : sT w) : wS w 155 = (9, 57) := h.1 155 _ rfl
theorem sS_156 {w : sm_W} (h : sT w) : wS w 156 = (9, 342) := h.1 156 _ rfl
theorem sS_157 {w : sm_W} (h : sT w) : wS w 157 = (9, 114) := h.1 157 _ rfl
theorem sS_158 {w : sm_W} (h : sT w) : wS w 158 = (10, 2) := h.1 158 _ rfl
theorem sS_159 {w : sm_W} (h : sT w) : wS w 159 = (9, 57) := h.1 159 _ rfl
theorem sS_160 {w : sm_W} (h : sT w) : wS w 160 = (9, 8) := h.1 160 _ rfl
theorem sS_161 {w : sm_W} (h : sT w) : wS w 161 = (9, 8) := h.1 161 _ rfl
theorem sS_162 {w : sm_W} (h : sT w) : wS w 162 = (9, 8) := h.1 162 _ rfl
theorem sS_163 {w : sm_W} (h : sT w) : wS w 163 = (9, 64) := h.1 163 _ rfl
theorem sS_164 {w : sm_W} (h : sT w) : wS w 164 = (9, 64) := h.1 164 _ rfl
theorem sS_165 {w : sm_W} (h : sT w) : wS w 165 = (9, 64) := h.1 165 _ rfl
theorem sS_166 {w : sm_W} (h : sT w) : wS w 166 = (9, 64) := h.1 166 _ rfl
theorem sS_167 {w : sm_W} (h : sT w) : wS w 167 = (9, 64) := h.1 167 _ rfl
theorem sS_168 {w : sm_W} (h : sT w) : wS w 168 = (9, 64) := h.1 168 _ rfl
theorem sS_169 {w : sm_W} (h : sT w) : wS w 169 = (9, 32) := h.1 169 _ rfl
theorem sS_170 {w : sm_W} (h : sT w) : wS w 170 = (9, 57) := h.1 170 _ rfl
theorem sS_171 {w : sm_W} (h : sT w) : wS w 171 = (9, 5) := h.1 171 _ rfl
theorem sS_172 {w : sm_W} (h : sT w) : wS w 172 = (9, 5) := h.1 172 _ rfl
theorem sS_173 {w : sm_W} (h : sT w) : wS w 173 = (9, 80) := h.1 173 _ rfl
theorem sS_174 {w : sm_W} (h : sT w) : wS w 174 = (9, 29) := h.1 174 _ rfl
theorem sS_175 {w : sm_W} (h : sT w) : wS w 175 = (9, 145) := h.1 175 _ rfl
theorem sR_0_0 {w : sm_W} (h : sT w) : wR w 0 0 = some 1 := h.2.1 (0, 0, 1) (List.mem_of_getElem? (i := 0) rfl)
theorem sR_0_1 {w : sm_W} (h : sT w) : wR w 0 1 = some 2 := h.2.1 (0, 1, 2) (List.mem_of_getElem? (i := 1) rfl)
theorem sR_0_2 {w : sm_W} (h : sT w) : wR w 0 2 = some 34 := h.2.1 (0, 2, 34) (List.mem_of_getElem? (i := 2) rfl)
theorem sR_0_3 {w : sm_W} (h : sT w) : wR w 0 3 = some 35 := h.2.1 (0, 3, 35) (List.mem_of_getElem? (i := 3) rfl)
theorem sR_0_4 {w : sm_W} (h : sT w) : wR w 0 4 = some 67 := h.2.1 (0, 4, 67) (List.mem_of_getElem? (i := 4) rfl)
theorem sR_0_5 {w : sm_W} (h : sT w) : wR w 0 5 = some 75 := h.2.1 (0, 5, 75) (List.mem_of_getElem? (i := 5) rfl)
theorem sR_0_6 {w : sm_W} (h : sT w) : wR w 0 6 = some 78 := h.2.1 (0, 6, 78) (List.mem_of_getElem? (i := 6) rfl)
theorem sR_0_7 {w : sm_W} (h : sT w) : wR w 0 7 = some 80 := h.2.1 (0, 7, 80) (List.mem_of_getElem? (i := 7) rfl)
theorem sR_0_8 {w : sm_W} (h : sT w) : wR w 0 8 = some 83 := h.2.1 (0, 8, 83) (List.mem_of_getElem? (i := 8) rfl)
theorem sR_0_9 {w : sm_W} (h : sT w) : wR w 0 9 = some 86 := h.2.1 (0, 9, 86) (List.mem_of_getElem? (i := 9) rfl)
theorem sR_0_10 {w : sm_W} (h : sT w) : wR w 0 10 = some 136 := h.2.1 (0, 10, 136) (List.mem_of_getElem? (i := 10) rfl)
theorem sR_0_11 {w : sm_W} (h : sT w) : wR w 0 11 = some 137 := h.2.1 (0, 11, 137) (List.mem_of_getElem? (i := 11) rfl)
theorem sR_75_0 {w : sm_W} (h : sT w) : wR w 75 0 = some 76 := h.2.1 (75, 0, 76) (List.mem_of_getElem? (i := 83) rfl)
theorem sR_75_1 {w : sm_W} (h : sT w) : wR w 75 1 = some 77 := h.2.1 (75, 1, 77) (List.mem_of_getElem? (i := 84) rfl)
theorem sR_78_0 {w : sm_W} (h : sT w) : wR w 78 0 = some 79 := h.2.1 (78, 0, 79) (List.mem_of_getElem? (i := 85) rfl)
theorem sR_80_0 {w : sm_W} (h : sT w) : wR w 80 0 = some 81 := h.2.1 (80, 0, 81) (List.mem_of_getElem? (i := 86) rfl)
theorem sR_80_2 {w : sm_W} (h : sT w) : wR w 80 2 = some 82 := h.2.1 (80, 2, 82) (List.mem_of_getElem? (i := 87) rfl)
theorem sR_83_1 {w : sm_W} (h : sT w) : wR w 83 1 = some 84 := h.2.1 (83, 1, 84) (List.mem_of_getElem? (i := 88) rfl)
theorem sR_83_4 {w : sm_W} (h : sT w) : wR w 83 4 = some 85 := h.2.1 (83, 4, 85) (List.mem_of_getElem? (i := 89) rfl)
theorem sR_86_1 {w : sm_W} (h : sT w) : wR w 86 1 = some 87 := h.2.1 (86, 1, 87) (List.mem_of_getElem? (i := 90) rfl)
theorem sR_136_0 {w : sm_W} (h : sT w) : wR w 136 0 = some 138 := h.2.1 (136, 0, 138) (List.mem_of_getElem? (i := 133) rfl)
theorem sR_136_1 {w : sm_W} (h : sT w) : wR w 136 1 = some 146 := h.2.1 (136, 1, 146) (List.mem_of_getElem? (i := 134) rfl)
theorem sR_154_0 {w : sm_W} (h : sT w) : wR w 154 0 = some 155 := h.2.1 (154, 0, 155) (List.mem_of_getElem? (i := 149) rfl)
theorem sR_154_1 {w : sm_W} (h : sT w) : wR w 154 1 = some 156 := h.2.1 (154, 1, 156) (List.mem_of_getElem? (i := 150) rfl)
theorem sR_154_4 {w : sm_W} (h : sT w) : wR w 154 4 = some 157 := h.2.1 (154, 4, 157) (List.mem_of_getElem? (i := 151) rfl)
theorem sR_154_5 {w : sm_W} (h : sT w) : wR w 154 5 = some 158 := h.2.1 (154, 5, 158) (List.mem_of_getElem? (i := 152) rfl)
theorem sR_154_6 {w : sm_W} (h : sT w) : wR w 154 6 = some 159 := h.2.1 (154, 6, 159) (List.mem_of_getElem? (i := 153) rfl)
theorem sR_154_7 {w : sm_W} (h : sT w) : wR w 154 7 = some 160 := h.2.1 (154, 7, 160) (List.mem_of_getElem? (i := 154) rfl)
theorem sR_154_8 {w : sm_W} (h : sT w) : wR w 154 8 = some 161 := h.2.1 (154, 8, 161) (List.mem_of_getElem? (i := 155) rfl)
theorem sR_154_9 {w : sm_W} (h : sT w) : wR w 154 9 = some 162 := h.2.1 (154, 9, 162) (List.mem_of_getElem? (i := 156) rfl)
theorem sR_154_10 {w : sm_W} (h : sT w) : wR w 154 10 = some 163 := h.2.1 (154, 10, 163) (List.mem_of_getElem? (i := 157) rfl)
theorem sR_154_11 {w : sm_W} (h : sT w) : wR w 154 11 = some 164 := h.2.1 (154, 11, 164) (List.mem_of_getElem? (i := 158) rfl)
theorem sR_154_12 {w : sm_W} (h : sT w) : wR w 154 12 = some 165 := h.2.1 (154, 12, 165) (List.mem_of_getElem? (i := 159) rfl)
theorem sR_154_13 {w : sm_W} (h : sT w) : wR w 154 13 = some 166 := h.2.1 (154, 13, 166) (List.mem_of_getElem? (i := 160) rfl)
theorem sR_154_14 {w : sm_W} (h : sT w) : wR w 154 14 = some 167 := h.2.1 (154, 14, 167) (List.mem_of_getElem? (i := 161) rfl)
theorem sR_154_15 {w : sm_W} (h : sT w) : wR w 154 15 = some 168 := h.2.1 (154, 15, 168) (List.mem_of_getElem? (i := 162) rfl)
theorem sR_154_16 {w : sm_W} (h : sT w) : wR w 154 16 = some 169 := h.2.1 (154, 16, 169) (List.mem_of_getElem? (i := 163) rfl)
theorem sR_154_19 {w : sm_W} (h : sT w) : wR w 154 19 = some 170 := h.2.1 (154, 19, 170) (List.mem_of_getElem? (i := 164) rfl)
theorem sR_154_21 {w : sm_W} (h : sT w) : wR w 154 21 = some 171 := h.2.1 (154, 21, 171) (List.mem_of_getElem? (i := 165) rfl)
theorem sR_154_22 {w : sm_W} (h : sT w) : wR w 154 22 = some 172 := h.2.1 (154, 22, 172) (List.mem_of_getElem? (i := 166) rfl)
theorem sR_154_23 {w : sm_W} (h : sT w) : wR w 154 23 = some 173 := h.2.1 (154, 23, 173) (List.mem_of_getElem? (i := 167) rfl)
theorem sR_154_28 {w : sm_W} (h : sT w) : wR w 154 28 = some 174 := h.2.1 (154, 28, 174) (List.mem_of_getElem? (i := 168) rfl)
theorem sR_154_29 {w : sm_W} (h : sT w) : wR w 154 29 = some 175 := h.2.1 (154, 29, 175) (List.mem_of_getElem? (i := 169) rfl)
theorem lS {w : sm_W} (h : sT w) {x : Nat} (hx : sm_isL x) : wS w x = (2, 9) ∧ wS w (x + 1) = (9, 8) ∧ wS w (x + 2) = (9, 7) ∧ wS w (x + 3) = (9, 8) ∧ wS w (x + 4) = (9, 8) ∧ wS w (x + 5) = (9, 8) ∧ wS w (x + 6) = (9, 8) ∧ wS w (x + 7) = (9, 8) ∧ wR w x 0 = some (x + 1) ∧ wR w x 1 = some (x + 2) ∧ wR w x 2 = some (x + 3) ∧ wR w x 3 = some (x + 4) ∧ wR w x 4 = some (x + 5) ∧ wR w x 5 = some (x + 6) ∧ wR w x 6 = some (x + 7) := by
  unfold sm_isL at hx
  simp only [List.mem_cons, List.not_mem_nil, or_false] at hx
  rcases hx with rfl | rfl | rfl | rfl | rfl | rfl | rfl | rfl | rfl | rfl | rfl
  · exact ⟨h.1 2 _ rfl, h.1 3 _ rfl, h.1 4 _ rfl, h.1 5 _ rfl, h.1 6 _ rfl, h.1 7 _ rfl, h.1 8 _ rfl, h.1 9 _ rfl, h.2.1 (2, 0, 3) (List.mem_of_getElem? (i := 21) rfl), h.2.1 (2, 1, 4) (List.mem_of_getElem? (i := 22) rfl), h.2.1 (2, 2, 5) (List.mem_of_getElem? (i := 23) rfl), h.2.1 (2, 3, 6) (List.mem_of_getElem? (i := 24) rfl), h.2.1 (2, 4, 7) (List.mem_of_getElem? (i := 25) rfl), h.2.1 (2, 5, 8) (List.mem_of_getElem? (i := 26) rfl), h.2.1 (2, 6, 9) (List.mem_of_getElem? (i := 27) rfl)⟩
  · exact ⟨h.1 35 _ rfl, h.1 36 _ rfl, h.1 37 _ rfl, h.1 38 _ rfl, h.1 39 _ rfl, h.1 40 _ rfl, h.1 41 _ rfl, h.1 42 _ rfl, h.2.1 (35, 0, 36) (List.mem_of_getElem? (i := 53) rfl), h.2.1 (35, 1, 37) (List.mem_of_getElem? (i := 54) rfl), h.2.1 (35, 2, 38) (List.mem_of_getElem? (i := 55) rfl), h.2.1 (35, 3, 39) (List.mem_of_getElem? (i := 56) rfl), h.2.1 (35, 4, 40) (List.mem_of_getElem? (i := 57) rfl), h.2.1 (35, 5, 41) (List.mem_of_getElem? (i := 58) rfl), h.2.1 (35, 6, 42) (List.mem_of_getElem? (i := 59) rfl)⟩
  · exact ⟨h.1 67 _ rfl, h.1 68 _ rfl, h.1 69 _ rfl, h.1 70 _ rfl, h.1 71 _ rfl, h.1 72 _ rfl, h.1 73 _ rfl, h.1 74 _ rfl, h.2.1 (67, 0, 68) (List.mem_of_getElem? (i := 76) rfl), h.2.1 (67, 1, 69) (List.mem_of_getElem? (i := 77) rfl), h.2.1 (67, 2, 70) (List.mem_of_getElem? (i := 78) rfl), h.2.1 (67, 3, 71) (List.mem_of_getElem? (i := 79) rfl), h.2.1 (67, 4, 72) (List.mem_of_getElem? (i := 80) rfl), h.2.1 (67, 5, 73) (List.mem_of_getElem? (i := 81) rfl), h.2.1 (67, 6, 74) (List.mem_of_getElem? (i := 82) rfl)⟩
  · exact ⟨h.1 88 _ rfl, h.1 89 _ rfl, h.1 90 _ rfl, h.1 91 _ rfl, h.1 92 _ rfl, h.1 93 _ rfl, h.1 94 _ rfl, h.1 95 _ rfl, h.2.1 (88, 0, 89) (List.mem_of_getElem? (i := 91) rfl), h.2.1 (88, 1, 90) (List.mem_of_getElem? (i := 92) rfl), h.2.1 (88, 2, 91) (List.mem_of_getElem? (i := 93) rfl), h.2.1 (88, 3, 92) (List.mem_of_getElem? (i := 94) rfl), h.2.1 (88, 4, 93) (List.mem_of_getElem? (i := 95) rfl), h.2.1 (88, 5, 94) (List.mem_of_getElem? (i := 96) rfl), h.2.1 (88, 6, 95) (List.mem_of_getElem? (i := 97) rfl)⟩
  · exact ⟨h.1 96 _ rfl, h.1 97 _ rfl, h.1 98 _ rfl, h.1 99 _ rfl, h.1 100 _ rfl, h.1 101 _ rfl, h.1 102 _ rfl, h.1 103 _ rfl, h.2.1 (96, 0, 97) (List.mem_of_getElem? (i := 98) rfl), h.2.1 (96, 1, 98) (List.mem_of_getElem? (i := 99) rfl), h.2.1 (96, 2, 99) (List.mem_of_getElem? (i := 100) rfl), h.2.1 (96, 3, 100) (List.mem_of_getElem? (i := 101) rfl), h.2.1 (96, 4, 101) (List.mem_of_getElem? (i := 102) rfl), h.2.1 (96, 5, 102) (List.mem_of_getElem? (i := 103) rfl), h.2.1 (96, 6, 103) (List.mem_of_getElem? (i := 104) rfl)⟩
  · exact ⟨h.1 104 _ rfl, h.1 105 _ rfl, h.1 106 _ rfl, h.1 107 _ rfl, h.1 108 _ rfl, h.1 109 _ rfl, h.1 110 _ rfl, h.1 111 _ rfl, h.2.1 (104, 0, 105) (List.mem_of_getElem? (i := 105) rfl), h.2.1 (104, 1, 106) (List.mem_of_getElem? (i := 106) rfl), h.2.1 (104, 2, 107) (List.mem_of_getElem? (i := 107) rfl), h.2.1 (104, 3, 108) (List.mem_of_getElem? (i := 108) rfl), h.2.1 (104, 4, 109) (List.mem_of_getElem? (i := 109) rfl), h.2.1 (104, 5, 110) (List.mem_of_getElem? (i := 110) rfl), h.2.1 (104, 6, 111) (List.mem_of_getElem? (i := 111) rfl)⟩
  · exact ⟨h.1 112 _ rfl, h.1 113 _ rfl, h.1 114 _ rfl, h.1 115 _ rfl, h.1 116 _ rfl, h.1 117 _ rfl, h.1 118 _ rfl, h.1 119 _ rfl, h.2.1 (112, 0, 113) (List.mem_of_getElem? (i := 112) rfl), h.2.1 (112, 1, 114) (List.mem_of_getElem? (i := 113) rfl), h.2.1 (112, 2, 115) (List.mem_of_getElem? (i := 114) rfl), h.2.1 (112, 3, 116) (List.mem_of_getElem? (i := 115) rfl), h.2.1 (112, 4, 117) (List.mem_of_getElem? (i := 116) rfl), h.2.1 (112, 5, 118) (List.mem_of_getElem? (i := 117) rfl), h.2.1 (112, 6, 119) (List.mem_of_getElem? (i := 118) rfl)⟩
  · exact ⟨h.1 120 _ rfl, h.1 121 _ rfl, h.1 122 _ rfl, h.1 123 _ rfl, h.1 124 _ rfl, h.1 125 _ rfl, h.1 126 _ rfl, h.1 127 _ rfl, h.2.1 (120, 0, 121) (List.mem_of_getElem? (i := 119) rfl), h.2.1 (120, 1, 122) (List.mem_of_getElem? (i := 120) rfl), h.2.1 (120, 2, 123) (List.mem_of_getElem? (i := 121) rfl), h.2.1 (120, 3, 124) (List.mem_of_getElem? (i := 122) rfl), h.2.1 (120, 4, 125) (List.mem_of_getElem? (i := 123) rfl), h.2.1 (120, 5, 126) (List.mem_of_getElem? (i := 124) rfl), h.2.1 (120, 6, 127) (List.mem_of_getElem? (i := 125) rfl)⟩
  · exact ⟨h.1 128 _ rfl, h.1 129 _ rfl, h.1 130 _ rfl, h.1 131 _ rfl, h.1 132 _ rfl, h.1 133 _ rfl, h.1 134 _ rfl, h.1 135 _ rfl, h.2.1 (128, 0, 129) (List.mem_of_getElem? (i := 126) rfl), h.2.1 (128, 1, 130) (List.mem_of_getElem? (i := 127) rfl), h.2.1 (128, 2, 131) (List.mem_of_getElem? (i := 128) rfl), h.2.1 (128, 3, 132) (List.mem_of_getElem? (i := 129) rfl), h.2.1 (128, 4, 133) (List.mem_of_getElem? (i := 130) rfl), h.2.1 (128, 5, 134) (List.mem_of_getElem? (i := 131) rfl), h.2.1 (128, 6, 135) (List.mem_of_getElem? (i := 132) rfl)⟩
  · exact ⟨h.1 138 _ rfl, h.1 139 _ rfl, h.1 140 _ rfl, h.1 141 _ rfl, h.1 142 _ rfl, h.1 143 _ rfl, h.1 144 _ rfl, h.1 145 _ rfl, h.2.1 (138, 0, 139) (List.mem_of_getElem? (i := 135) rfl), h.2.1 (138, 1, 140) (List.mem_of_getElem? (i := 136) rfl), h.2.1 (138, 2, 141) (List.mem_of_getElem? (i := 137) rfl), h.2.1 (138, 3, 142) (List.mem_of_getElem? (i := 138) rfl), h.2.1 (138, 4, 143) (List.mem_of_getElem? (i := 139) rfl), h.2.1 (138, 5, 144) (List.mem_of_getElem? (i := 140) rfl), h.2.1 (138, 6, 145) (List.mem_of_getElem? (i := 141) rfl)⟩
  · exact ⟨h.1 146 _ rfl, h.1 147 _ rfl, h.1 148 _ rfl, h.1 149 _ rfl, h.1 150 _ rfl, h.1 151 _ rfl, h.1 152 _ rfl, h.1 153 _ rfl, h.2.1 (146, 0, 147) (List.mem_of_getElem? (i := 142) rfl), h.2.1 (146, 1, 148) (List.mem_of_getElem? (i := 143) rfl), h.2.1 (146, 2, 149) (List.mem_of_getElem? (i := 144) rfl), h.2.1 (146, 3, 150) (List.mem_of_getElem? (i := 145) rfl), h.2.1 (146, 4, 151) (List.mem_of_getElem? (i := 146) rfl), h.2.1 (146, 5, 152) (List.mem_of_getElem? (i := 147) rfl), h.2.1 (146, 6, 153) (List.mem_of_getElem? (i := 148) rfl)⟩
theorem dS {w : sm_W} (h : sT w) {x : Nat} (hx : sm_isD x) : wS w x = (0, 11) ∧ wS w (x + 9) = (13, 8) ∧ wS w (x + 18) = (13, 8) ∧ wS w (x + 27) = (9, 8) ∧ wS w (x + 28) = (10, 8) ∧ wS w (x + 29) = (9, 8) ∧ wS w (x + 30) = (9, 8) ∧ wS w (x + 31) = (10, 7) ∧ wS w (x + 32) = (9, 8) ∧ wR w x 0 = some (x + 1) ∧ wR w x 1 = some (x + 9) ∧ wR w x 2 = some (x + 18) ∧ wR w x 5 = some (x + 27) ∧ wR w x 6 = some (x + 28) ∧ wR w x 7 = some (x + 29) ∧ wR w x 8 = some (x + 30) ∧ wR w x 9 = some (x + 31) ∧ wR w x 10 = some (x + 32) := by
  rcases hx with rfl | rfl
  · exact ⟨h.1 1 _ rfl, h.1 10 _ rfl, h.1 19 _ rfl, h.1 28 _ rfl, h.1 29 _ rfl, h.1 30 _ rfl, h.1 31 _ rfl, h.1 32 _ rfl, h.1 33 _ rfl, h.2.1 (1, 0, 2) (List.mem_of_getElem? (i := 12) rfl), h.2.1 (1, 1, 10) (List.mem_of_getElem? (i := 13) rfl), h.2.1 (1, 2, 19) (List.mem_of_getElem? (i := 14) rfl), h.2.1 (1, 5, 28) (List.mem_of_getElem? (i := 15) rfl), h.2.1 (1, 6, 29) (List.mem_of_getElem? (i := 16) rfl), h.2.1 (1, 7, 30) (List.mem_of_getElem? (i := 17) rfl), h.2.1 (1, 8, 31) (List.mem_of_getElem? (i := 18) rfl), h.2.1 (1, 9, 32) (List.mem_of_getElem? (i := 19) rfl), h.2.1 (1, 10, 33) (List.mem_of_getElem? (i := 20) rfl)⟩
  · exact ⟨h.1 34 _ rfl, h.1 43 _ rfl, h.1 52 _ rfl, h.1 61 _ rfl, h.1 62 _ rfl, h.1 63 _ rfl, h.1 64 _ rfl, h.1 65 _ rfl, h.1 66 _ rfl, h.2.1 (34, 0, 35) (List.mem_of_getElem? (i := 44) rfl), h.2.1 (34, 1, 43) (List.mem_of_getElem? (i := 45) rfl), h.2.1 (34, 2, 52) (List.mem_of_getElem? (i := 46) rfl), h.2.1 (34, 5, 61) (List.mem_of_getElem? (i := 47) rfl), h.2.1 (34, 6, 62) (List.mem_of_getElem? (i := 48) rfl), h.2.1 (34, 7, 63) (List.mem_of_getElem? (i := 49) rfl), h.2.1 (34, 8, 64) (List.mem_of_getElem? (i := 50) rfl), h.2.1 (34, 9, 65) (List.mem_of_getElem? (i := 51) rfl), h.2.1 (34, 10, 66) (List.mem_of_getElem? (i := 52) rfl)⟩
theorem dL {x : Nat} (hx : sm_isD x) : sm_isL (x + 1) := by
  rcases hx with rfl | rfl <;> simp [sm_isL]
theorem dRows {w : sm_W} (h : sT w) {x : Nat} (hx : sm_isD x) (i : Int) (h0 : 0 ≤ i) (h1 : i < 8) : wR w (x + 9) i = some (x + 10 + i.toNat) ∧ wR w (x + 18) i = some (x + 19 + i.toNat) ∧ wS w (x + 10 + i.toNat) = (9, 8) ∧ wS w (x + 19 + i.toNat) = (9, 8) := by
  have hi : i = 0 ∨ i = 1 ∨ i = 2 ∨ i = 3 ∨ i = 4 ∨ i = 5 ∨ i = 6 ∨ i = 7 := by omega
  rcases hx with rfl | rfl <;> rcases hi with rfl | rfl | rfl | rfl | rfl | rfl | rfl | rfl
  · exact ⟨h.2.1 (10, 0, 11) (List.mem_of_getElem? (i := 28) rfl), h.2.1 (19, 0, 20) (List.mem_of_getElem? (i := 36) rfl), h.1 11 _ rfl, h.1 20 _ rfl⟩
  · exact ⟨h.2.1 (10, 1, 12) (List.mem_of_getElem? (i := 29) rfl), h.2.1 (19, 1, 21) (List.mem_of_getElem? (i := 37) rfl), h.1 12 _ rfl, h.1 21 _ rfl⟩
  · exact ⟨h.2.1 (10, 2, 13) (List.mem_of_getElem? (i := 30) rfl), h.2.1 (19, 2, 22) (List.mem_of_getElem? (i := 38) rfl), h.1 13 _ rfl, h.1 22 _ rfl⟩
  · exact ⟨h.2.1 (10, 3, 14) (List.mem_of_getElem? (i := 31) rfl), h.2.1 (19, 3, 23) (List.mem_of_getElem? (i := 39) rfl), h.1 14 _ rfl, h.1 23 _ rfl⟩
  · exact ⟨h.2.1 (10, 4, 15) (List.mem_of_getElem? (i := 32) rfl), h.2.1 (19, 4, 24) (List.mem_of_getElem? (i := 40) rfl), h.1 15 _ rfl, h.1 24 _ rfl⟩
  · exact ⟨h.2.1 (10, 5, 16) (List.mem_of_getElem? (i := 33) rfl), h.2.1 (19, 5, 25) (List.mem_of_getElem? (i := 41) rfl), h.1 16 _ rfl, h.1 25 _ rfl⟩
  · exact ⟨h.2.1 (10, 6, 17) (List.mem_of_getElem? (i := 34) rfl), h.2.1 (19, 6, 26) (List.mem_of_getElem? (i := 42) rfl), h.1 17 _ rfl, h.1 26 _ rfl⟩
  · exact ⟨h.2.1 (10, 7, 18) (List.mem_of_getElem? (i := 35) rfl), h.2.1 (19, 7, 27) (List.mem_of_getElem? (i := 43) rfl), h.1 18 _ rfl, h.1 27 _ rfl⟩
  · exact ⟨h.2.1 (43, 0, 44) (List.mem_of_getElem? (i := 60) rfl), h.2.1 (52, 0, 53) (List.mem_of_getElem? (i := 68) rfl), h.1 44 _ rfl, h.1 53 _ rfl⟩
  · exact ⟨h.2.1 (43, 1, 45) (List.mem_of_getElem? (i := 61) rfl), h.2.1 (52, 1, 54) (List.mem_of_getElem? (i := 69) rfl), h.1 45 _ rfl, h.1 54 _ rfl⟩
  · exact ⟨h.2.1 (43, 2, 46) (List.mem_of_getElem? (i := 62) rfl), h.2.1 (52, 2, 55) (List.mem_of_getElem? (i := 70) rfl), h.1 46 _ rfl, h.1 55 _ rfl⟩
  · exact ⟨h.2.1 (43, 3, 47) (List.mem_of_getElem? (i := 63) rfl), h.2.1 (52, 3, 56) (List.mem_of_getElem? (i := 71) rfl), h.1 47 _ rfl, h.1 56 _ rfl⟩
  · exact ⟨h.2.1 (43, 4, 48) (List.mem_of_getElem? (i := 64) rfl), h.2.1 (52, 4, 57) (List.mem_of_getElem? (i := 72) rfl), h.1 48 _ rfl, h.1 57 _ rfl⟩
  · exact ⟨h.2.1 (43, 5, 49) (List.mem_of_getElem? (i := 65) rfl), h.2.1 (52, 5, 58) (List.mem_of_getElem? (i := 73) rfl), h.1 49 _ rfl, h.1 58 _ rfl⟩
  · exact ⟨h.2.1 (43, 6, 50) (List.mem_of_getElem? (i := 66) rfl), h.2.1 (52, 6, 59) (List.mem_of_getElem? (i := 74) rfl), h.1 50 _ rfl, h.1 59 _ rfl⟩
  · exact ⟨h.2.1 (43, 7, 51) (List.mem_of_getElem? (i := 67) rfl), h.2.1 (52, 7, 60) (List.mem_of_getElem? (i := 75) rfl), h.1 51 _ rfl, h.1 60 _ rfl⟩
end
section
/-! WHAT A LINE HOLDS, as 57 numbers; loops -/
def vOK (v : Int → Int) : Prop := (0 ≤ v 0 ∧ v 0 ≤ 2) ∧ (0 ≤ v 1 ∧ v 1 ≤ 8) ∧ (∀ k, 0 ≤ k → k < 8 → 1 ≤ v (2 + k) ∧ v (2 + k) ≤ 4) ∧ (∀ k, 0 ≤ k → k < 7 → 1 ≤ v (10 + k) ∧ v (10 + k) ≤ 30) ∧
  ∀ x, 0 ≤ x → x < v 1 → (0 ≤ v (17 + 5 * x) ∧ v (17 + 5 * x) < 8) ∧ (0 ≤ v (17 + 5 * x + 1) ∧ v (17 + 5 * x + 1) < 8) ∧ v (17 + 5 * x) ≠ v (17 + 5 * x + 1) ∧ (0 ≤ v (17 + 5 * x + 2) ∧ v (17 + 5 * x + 2) ≤ 300) ∧ (0 ≤ v (17 + 5 * x + 3) ∧ v (17 + 5 * x + 3) ≤ 20) ∧ (0 ≤ v (17 + 5 * x + 4) ∧ v (17 + 5 * x + 4) ≤ 9)
theorem vOK_many {v : Int → Int} (h : vOK v) : 0 ≤ v 1 ∧ v 1 ≤ 8 := h.2.1
theorem vOK_first {v : Int → Int} (h : vOK v) : 0 ≤ v 0 ∧ v 0 ≤ 2 := h.1
theorem vOK_tr {v : Int → Int} (h : vOK v) {k : Int} (h0 : 0 ≤ k) (h1 : k < 8) : 1 ≤ v (2 + k) ∧ v (2 + k) ≤ 4 := h.2.2.1 k h0 h1
theorem vOK_ru {v : Int → Int} (h : vOK v) {k : Int} (h0 : 0 ≤ k) (h1 : k < 7) : 1 ≤ v (10 + k) ∧ v (10 + k) ≤ 30 := h.2.2.2.1 k h0 h1
theorem vOK_sh {v : Int → Int} (h : vOK v) {x : Int} (h0 : 0 ≤ x) (h1 : x < v 1) : (0 ≤ v (17 + 5 * x) ∧ v (17 + 5 * x) < 8) ∧ (0 ≤ v (17 + 5 * x + 1) ∧ v (17 + 5 * x + 1) < 8) ∧ v (17 + 5 * x) ≠ v (17 + 5 * x + 1) ∧ (0 ≤ v (17 + 5 * x + 2) ∧ v (17 + 5 * x + 2) ≤ 300) ∧ (0 ≤ v (17 + 5 * x + 3) ∧ v (17 + 5 * x + 3) ≤ 20) ∧ (0 ≤ v (17 + 5 * x + 4) ∧ v (17 + 5 * x + 4) ≤ 9) := h.2.2.2.2 x h0 h1
/-- a loop with a counter that goes up -/
theorem sm_loop (Z : Nat → sm_K) (h : Nat) (N : Nat) (ls : Nat → List (Option sm_V)) (w : Nat → sm_W) (k q : Nat) (step : ∀ i, i ≤ N → (i < N → Z h (ls (i + 1)) [] (w (i + 1)) k q) → Z h (ls i) [] (w i) k q) : Z h (ls 0) [] (w 0) k q := by
  have key : ∀ j, j ≤ N → Z h (ls (N - j)) [] (w (N - j)) k q := by
    intro j
    induction j with
    | zero => exact fun _ => step N (Nat.le_refl _) (fun hlt => absurd hlt (Nat.lt_irrefl _))
    | succ j ih =>
      intro hj
      refine step (N - (j + 1)) (by omega) (fun _ => ?_)
      have := ih (by omega)
      rw [show N - (j + 1) + 1 = N - j by omega]
      exact this
  have := key N (Nat.le_refl _)
  rw [Nat.sub_self] at this
  exact this
/-- a loop with a measure that falls -/
theorem sm_loopM {S : Type} (Z : Nat → sm_K) (h : Nat) (μ : S → Nat) (I : S → Prop) (ls : S → List (Option sm_V)) (w : S → sm_W) (k q : Nat) (step : ∀ s, I s → (∀ s', I s' → μ s' < μ s → Z h (ls s') [] (w s') k q) → Z h (ls s) [] (w s) k q) : ∀ s, I s → Z h (ls s) [] (w s) k q := by
  have key : ∀ n s, μ s < n → I s → Z h (ls s) [] (w s) k q := by
    intro n
    induction n with
    | zero => exact fun s hs _ => absurd hs (Nat.not_lt_zero _)
    | succ n ih => exact fun s hs hi => step s hi (fun s' hi' hlt => ih s' (by omega) hi')
  exact fun s hi => key (μ s + 1) s (Nat.lt_succ_self _) hi
/-- f 0, f 1 .. up to n -/
def itI {α : Type} (f : Int → α → α) (a : α) (n : Int) : α := Nat.rec a (fun k r => f k r) n.toNat
theorem itI_0 {α : Type} (f : Int → α → α) (a : α) : itI f a 0 = a := rfl
theorem itI_s {α : Type} (f : Int → α → α) (a : α) {i : Int} (h : 0 ≤ i) : itI f a (i + 1) = f i (itI f a i) := by
  obtain ⟨n, rfl⟩ : ∃ n : Nat, i = n := ⟨i.toNat, by omega⟩
  show Nat.rec a (fun (k : Nat) r => f k r) ((n : Int) + 1).toNat = f n (Nat.rec a (fun (k : Nat) r => f k r) ((n : Int)).toNat)
  rw [show ((n : Int) + 1).toNat = n + 1 by omega, Int.toNat_natCast]
theorem itI_ind {α : Type} {f : Int → α → α} {a : α} (P : Int → α → Prop) (n : Int) (h0 : P 0 a) (hs : ∀ i r, 0 ≤ i → i < n → P i r → P (i + 1) (f i r)) : ∀ i, 0 ≤ i → i ≤ n → P i (itI f a i) := by
  have key : ∀ k : Nat, (k : Int) ≤ n → P k (itI f a k) := by
    intro k
    induction k with
    | zero => exact fun _ => h0
    | succ k ih =>
      intro hk
      have h1 := hs k _ (by omega) (by omega) (ih (by omega))
      rw [← itI_s f a (by omega)] at h1
      exact h1
  intro i hi hn
  have := key i.toNat (by omega)
  rw [Int.toNat_of_nonneg hi] at this
  exact this
theorem sm_loopI (Z : Nat → sm_K) (h : Nat) (a N : Int) (ls : Int → List (Option sm_V)) (w : Int → sm_W) (k q : Nat) (hN : a ≤ N) (step : ∀ i, a ≤ i → i ≤ N → (i < N → Z h (ls (i + 1)) [] (w (i + 1)) k q) → Z h (ls i) [] (w i) k q) : Z h (ls a) [] (w a) k q := by
  have key : ∀ j : Nat, (j : Int) ≤ N - a → Z h (ls (N - j)) [] (w (N - j)) k q := by
    intro j
    induction j with
    | zero =>
      intro _
      have := step N hN (Int.le_refl _) (fun hlt => absurd hlt (Int.lt_irrefl _))
      rw [show N - ((0 : Nat) : Int) = N by omega]
      exact this
    | succ j ih =>
      intro hj
      refine step (N - ((j + 1 : Nat) : Int)) (by omega) (by omega) (fun _ => ?_)
      have := ih (by omega)
      rw [show N - ((j + 1 : Nat) : Int) + 1 = N - j by omega]
      exact this
  have := key (N - a).toNat (by omega)
  rw [show N - (((N - a).toNat : Nat) : Int) = a by omega] at this
  exact this
theorem sT_iff {w : sm_W} {a : Nat} {i v : Int} : sT (wsI w a i v) ↔ sT w := Iff.rfl
theorem sT_iffC {w : sm_W} {a b : Nat} {n : Int} : sT (wCp w a b n) ↔ sT w := Iff.rfl
theorem wIf_ne {w : sm_W} {a : Nat} {i v : Int} {x : Nat} (h : ¬ x = a) : wI (wsI w a i v) x = wI w x := funext fun j => wI_wsI_ne h j
theorem itI_abs {α : Type} {f : Int → α → α} {a r0 : α} (h : ∀ k, 0 ≤ k → f k r0 = r0) {i n : Int} (h0 : 0 ≤ i) (hn : i ≤ n) (hi : itI f a i = r0) : itI f a n = r0 := by
  have key : ∀ k : Nat, itI f a (i + k) = r0 := by
    intro k
    induction k with
    | zero => rw [show i + ((0 : Nat) : Int) = i by omega]; exact hi
    | succ k ih =>
      rw [show i + ((k + 1 : Nat) : Int) = (i + k) + 1 by omega, itI_s f a (by omega), ih]
      exact h _ (by omega)
  have := key (n - i).toNat
  rw [show i + (((n - i).toNat : Nat) : Int) = n by omega] at this
  exact this
/-- how many x below n are so -/
def cntP (p : Int → Bool) (n : Int) : Int := itI (fun x r => if p x = true then r + 1 else r) 0 n
theorem cntP_le (p : Int → Bool) (n : Int) (hn : 0 ≤ n) : 0 ≤ cntP p n ∧ cntP p n ≤ n := by
  refine itI_ind (fun i r => 0 ≤ r ∧ r ≤ i) n ⟨Int.le_refl _, Int.le_refl _⟩ (fun i r h0 h1 h => ?_) n hn (Int.le_refl _)
  split <;> omega
theorem cntP_upd {p q : Int → Bool} {x : Int} (hp : p x = true) (hq : q x = false) (he : ∀ y, y ≠ x → q y = p y) (h0 : 0 ≤ x) : ∀ n : Nat, (x < n → cntP q n + 1 = cntP p n) ∧ ((n : Int) ≤ x → cntP q n = cntP p n) := by
  intro n
  induction n with
  | zero => exact ⟨fun h => absurd h (by omega), fun _ => rfl⟩
  | succ n ih =>
    have e : ((n + 1 : Nat) : Int) = (n : Int) + 1 := by omega
    have s1 : cntP q ((n : Int) + 1) = if q n = true then cntP q n + 1 else cntP q n := itI_s _ _ (by omega)
    have s2 : cntP p ((n : Int) + 1) = if p n = true then cntP p n + 1 else cntP p n := itI_s _ _ (by omega)
    rw [e, s1, s2]
    by_cases hx : (n : Int) = x
    · subst hx
      have h2 := ih.2 (Int.le_refl _)
      rw [hp, hq, h2]
      constructor
      · intro _; rfl
      · intro h; omega
    · rw [he n hx]
      constructor
      · intro h
        have := ih.1 (by omega)
        split <;> omega
      · intro h
        have := ih.2 (by omega)
        split <;> omega
end
section
/-! THE REFERENCE: small reads -/
def mOK (w : sm_W) : Prop := sT w ∧ vOK (wI w 155)
def b01 (p : Prop) [Decidable p] : Int := if p then 1 else 0
def p_X8_in : List sm_V → sm_W → Prop
  | [.inl v, .inl a, .inl b], w => True
  | _, _ => False
def f_X8_in : sm_F
  | [.inl v, .inl a, .inl b], w => (some (.inl (b01 (a ≤ v ∧ v ≤ b))), w)
  | _, w => (none, w)
def tb_X8_in : List (Nat × List sm_O) := [(0, [oI 0, oI 1, oLt 14, oI 0, oI 2, oGt 14, oK 1, oGo 15]),
  (14, [oK 0, oGo 15]),
  (15, [oZr])]
set_option maxRecDepth 100000 in
theorem sb_X8_in_0 (l : Launch) : sm_SndB l RX8 "in" cX8_in 3 2 0 0 [oI 0, oI 1, oLt 14, oI 0, oI 2, oGt 14, oK 1, oGo 15] := sb_cons (sd_iload_n (by decide +kernel : decode cX8_in 0 = .ok (.iload_n 0, 1)) rfl) (sb_cons (sd_iload_n (by decide +kernel : decode cX8_in 1 = .ok (.iload_n 1, 1)) rfl) (sb_cons (sd_lt (by decide +kernel : decode cX8_in 2 = .ok (.if_icmp .lt 12, 3)) (by decide)) (sb_cons (sd_iload_n (by decide +kernel : decode cX8_in 5 = .ok (.iload_n 0, 1)) rfl) (sb_cons (sd_iload_n (by decide +kernel : decode cX8_in 6 = .ok (.iload_n 2, 1)) rfl) (sb_cons (sd_gt (by decide +kernel : decode cX8_in 7 = .ok (.if_icmp .gt 7, 3)) (by decide)) (sb_cons (sd_iconst (by decide +kernel : decode cX8_in 10 = .ok (.iconst 1, 1)) ⟨by decide, by decide⟩) (sb_cons (sd_goto (x := 0) (by decide +kernel : decode cX8_in 11 = .ok (.goto 4, 3)) (by decide)) sb_nil)))))))
set_option maxRecDepth 100000 in
theorem sb_X8_in_14 (l : Launch) : sm_SndB l RX8 "in" cX8_in 3 2 0 14 [oK 0, oGo 15] := sb_cons (sd_iconst (by decide +kernel : decode cX8_in 14 = .ok (.iconst 0, 1)) ⟨by decide, by decide⟩) (sb_cons (sd_fall (x := 0)) sb_nil)
set_option maxRecDepth 100000 in
theorem sb_X8_in_15 (l : Launch) : sm_SndB l RX8 "in" cX8_in 3 2 0 15 [oZr] := sb_cons (sd_zreturn (x := 0) rfl (by decide +kernel : decode cX8_in 15 = .ok (.ireturn, 1))) sb_nil
theorem sn_X8_in (l : Launch) : sm_SndT l RX8 "in" cX8_in 3 2 0 tb_X8_in := st_cons (sb_X8_in_0 l) (st_cons (sb_X8_in_14 l) (st_cons (sb_X8_in_15 l) (st_nil)))
set_option maxRecDepth 100000 in
set_option maxHeartbeats 4000000 in
theorem ok_X8_in : sm_Ok tb_X8_in 3 0 0 p_X8_in f_X8_in := by
  intro as w hp ha hw
  match as, hp with
  | [.inl v, .inl a, .inl b], hp =>
  refine ⟨Nat.le_of_ble_eq_true rfl, fun Z hZ => ?_⟩
  refine hZ (fun _ => false) 40 0 _ _ _ _ _ ?_
  simp only [sm_run, sm_blk, sm_get, sm_ent, sm_ents, sm_wds, sm_wd, sm_nl, sm_pop, sm_back, sm_cases, oK, oLK, oL, oI, oA, oJ, oIs, oAs, oJs, oInc, oAdd, oSub, oMul, oDiv, oRem, oNeg, oAnd, oOr, oShl, oI2c, oI2l, oL2i, oLand, oLor, oLshl, oLshr, oLushr, oLcmp, oDup, oDup2, oPop, oGo, oFg, oEq, oNe, oLt, oGe, oGt, oLe, oEq0, oNe0, oLt0, oGe0, oGt0, oLe0, oSw, oGi, oGr, oPi, oPz, oPr, oLen, oIl, oZl, oCl, oRl, oIst, oZst, oCst, oRst, oCopy, oNew, oNa, oNa2, oObj, oCs, oCv, oCi, oIr, oZr, oVr, Nat.beq, List.getElem?_cons_zero, List.getElem?_cons_succ, List.set_cons_zero, List.set_cons_succ, List.length_cons, List.length_nil, List.nil_append, List.cons_append, List.append_nil, List.replicate_succ, List.replicate_zero, Nat.reduceAdd, Nat.reduceSub, Nat.reduceLT, Nat.reduceLeDiff, Nat.reduceBEq, true_and, and_true, Nat.zero_add, Nat.add_zero, Nat.le_refl, Option.some.injEq, exists_eq_left', true_or, or_true, or_false, false_or, reduceCtorEq, Prod.mk.injEq, Sum.inl.injEq, and_self, false_and, and_false, not_true_eq_false, not_false_eq_true, false_implies, true_implies, sm_r, Int.add_zero, Int.zero_add, wI_wsI, wS_wsI, wR_wsI, wI_wCp, wS_wCp, wR_wCp, Nat.reduceEqDiff, reduceIte, sT_iff, sT_iffC, wIf_ne, ne_eq, tb_X8_in, p_X8_in, f_X8_in, b01]
  repeat' (first | assumption | with_reducible refine And.intro ?_ ?_ | intro _)
  all_goals first
    | omega
    | rfl
    | (split <;> omega)
    | skip
theorem met_X8_in (l : Launch) : sm_Met l yX8_in cX8_in 3 (some .boolean) 0 0 0 p_X8_in f_X8_in := sm_met 2 (Or.inr (Or.inr ⟨rfl, rfl⟩)) (by decide +kernel) (sn_X8_in l) ok_X8_in
def p_X8_of : List sm_V → sm_W → Prop
  | [.inr (.inl m), .inl x, .inl k], w => m = 154 ∧ sT w ∧ 0 ≤ x ∧ x < 8 ∧ 0 ≤ k ∧ k < 5
  | _, _ => False
def f_X8_of : sm_F
  | [.inr (.inl m), .inl x, .inl k], w => (some (.inl (wI w 155 (17 + 5 * x + k))), w)
  | _, w => (none, w)
def tb_X8_of : List (Nat × List sm_O) := [(0, [oA 0, oGr 8 30 0, oK 17, oK 5, oI 1, oMul, oAdd, oI 2, oAdd, oIl, oIr])]
set_option maxRecDepth 100000 in
theorem sb_X8_of_0 (l : Launch) : sm_SndB l RX8 "of" cX8_of 3 1 0 0 [oA 0, oGr 8 30 0, oK 17, oK 5, oI 1, oMul, oAdd, oI 2, oAdd, oIl, oIr] := sb_cons (sd_aload_n (by decide +kernel : decode cX8_of 0 = .ok (.aload_n 0, 1)) rfl) (sb_cons (sd_getr (k := 0) kl_8 (by decide) rfl wm_673 (by decide +kernel : decode cX8_of 1 = .ok (.getfield 7, 3))) (sb_cons (sd_bipush (by decide +kernel : decode cX8_of 4 = .ok (.bipush 17, 2)) ⟨by decide, by decide⟩ (by decide)) (sb_cons (sd_iconst (by decide +kernel : decode cX8_of 6 = .ok (.iconst 5, 1)) ⟨by decide, by decide⟩) (sb_cons (sd_iload_n (by decide +kernel : decode cX8_of 7 = .ok (.iload_n 1, 1)) rfl) (sb_cons (sd_imul (by decide +kernel : decode cX8_of 8 = .ok (.imul, 1))) (sb_cons (sd_iadd (by decide +kernel : decode cX8_of 9 = .ok (.iadd, 1))) (sb_cons (sd_iload_n (by decide +kernel : decode cX8_of 10 = .ok (.iload_n 2, 1)) rfl) (sb_cons (sd_iadd (by decide +kernel : decode cX8_of 11 = .ok (.iadd, 1))) (sb_cons (sd_iaload (by decide +kernel : decode cX8_of 12 = .ok (.iaload, 1))) (sb_cons (sd_ireturn (x := 0) rfl (by decide +kernel : decode cX8_of 13 = .ok (.ireturn, 1))) sb_nil))))))))))
theorem sn_X8_of (l : Launch) : sm_SndT l RX8 "of" cX8_of 3 1 0 tb_X8_of := st_cons (sb_X8_of_0 l) (st_nil)
set_option maxRecDepth 100000 in
set_option maxHeartbeats 4000000 in
theorem ok_X8_of : sm_Ok tb_X8_of 3 0 0 p_X8_of f_X8_of := by
  intro as w hp ha hw
  match as, hp with
  | [.inr (.inl m), .inl x, .inl k], hp =>
  refine ⟨Nat.le_of_ble_eq_true rfl, fun Z hZ => ?_⟩
  obtain ⟨rfl, hT, h1, h2, h3, h4⟩ := hp
  refine hZ (fun _ => false) 40 0 _ _ _ _ _ ?_
  simp only [sm_run, sm_blk, sm_get, sm_ent, sm_ents, sm_wds, sm_wd, sm_nl, sm_pop, sm_back, sm_cases, oK, oLK, oL, oI, oA, oJ, oIs, oAs, oJs, oInc, oAdd, oSub, oMul, oDiv, oRem, oNeg, oAnd, oOr, oShl, oI2c, oI2l, oL2i, oLand, oLor, oLshl, oLshr, oLushr, oLcmp, oDup, oDup2, oPop, oGo, oFg, oEq, oNe, oLt, oGe, oGt, oLe, oEq0, oNe0, oLt0, oGe0, oGt0, oLe0, oSw, oGi, oGr, oPi, oPz, oPr, oLen, oIl, oZl, oCl, oRl, oIst, oZst, oCst, oRst, oCopy, oNew, oNa, oNa2, oObj, oCs, oCv, oCi, oIr, oZr, oVr, Nat.beq, List.getElem?_cons_zero, List.getElem?_cons_succ, List.set_cons_zero, List.set_cons_succ, List.length_cons, List.length_nil, List.nil_append, List.cons_append, List.append_nil, List.replicate_succ, List.replicate_zero, Nat.reduceAdd, Nat.reduceSub, Nat.reduceLT, Nat.reduceLeDiff, Nat.reduceBEq, true_and, and_true, Nat.zero_add, Nat.add_zero, Nat.le_refl, Option.some.injEq, exists_eq_left', true_or, or_true, or_false, false_or, reduceCtorEq, Prod.mk.injEq, Sum.inl.injEq, and_self, false_and, and_false, not_true_eq_false, not_false_eq_true, false_implies, true_implies, sm_r, Int.add_zero, Int.zero_add, wI_wsI, wS_wsI, wR_wsI, wI_wCp, wS_wCp, wR_wCp, Nat.reduceEqDiff, reduceIte, sT_iff, sT_iffC, wIf_ne, ne_eq, tb_X8_of, p_X8_of, f_X8_of, sS_154 hT, sR_154_0 hT, sS_155 hT]
  repeat' (first | assumption | with_reducible refine And.intro ?_ ?_ | intro _)
  all_goals first
    | omega
    | rfl
    | (split <;> omega)
    | skip
theorem met_X8_of (l : Launch) : sm_Met l yX8_of cX8_of 3 (some .int) 0 0 0 p_X8_of f_X8_of := sm_met 1 (Or.inr (Or.inl ⟨rfl, rfl⟩)) (by decide +kernel) (sn_X8_of l) ok_X8_of
def p_X8_isStation : List sm_V → sm_W → Prop
  | [.inl x], w => True
  | _, _ => False
def f_X8_isStation : sm_F
  | [.inl x], w => (some (.inl (b01 (0 ≤ x ∧ x ≤ 7))), w)
  | _, w => (none, w)
def tb_X8_isStation : List (Nat × List sm_O) := [(0, [oI 0, oK 0, oK 7, oCs p_X8_in f_X8_in 0 0 3, oZr])]
set_option maxRecDepth 100000 in
theorem sb_X8_isStation_0 (l : Launch) : sm_SndB l RX8 "isStation" cX8_isStation 1 2 1 0 [oI 0, oK 0, oK 7, oCs p_X8_in f_X8_in 0 0 3, oZr] := sb_cons (sd_iload_n (by decide +kernel : decode cX8_isStation 0 = .ok (.iload_n 0, 1)) rfl) (sb_cons (sd_iconst (by decide +kernel : decode cX8_isStation 1 = .ok (.iconst 0, 1)) ⟨by decide, by decide⟩) (sb_cons (sd_bipush (by decide +kernel : decode cX8_isStation 2 = .ok (.bipush 7, 2)) ⟨by decide, by decide⟩ (by decide)) (sb_cons (sd_calls (n := 3) (met_X8_in l) (by decide) (by decide) wm_710 wm_708 wm_10 ⟨by decide +kernel, by decide +kernel, by decide +kernel⟩ wm_709 (by decide +kernel : decode cX8_isStation 4 = .ok (.invokestatic 74, 3))) (sb_cons (sd_zreturn (x := 0) rfl (by decide +kernel : decode cX8_isStation 7 = .ok (.ireturn, 1))) sb_nil))))
theorem sn_X8_isStation (l : Launch) : sm_SndT l RX8 "isStation" cX8_isStation 1 2 1 tb_X8_isStation := st_cons (sb_X8_isStation_0 l) (st_nil)
set_option maxRecDepth 100000 in
set_option maxHeartbeats 4000000 in
theorem ok_X8_isStation : sm_Ok tb_X8_isStation 1 0 0 p_X8_isStation f_X8_isStation := by
  intro as w hp ha hw
  match as, hp with
  | [.inl x], hp =>
  refine ⟨Nat.le_of_ble_eq_true rfl, fun Z hZ => ?_⟩
  refine hZ (fun _ => false) 40 0 _ _ _ _ _ ?_
  simp only [sm_run, sm_blk, sm_get, sm_ent, sm_ents, sm_wds, sm_wd, sm_nl, sm_pop, sm_back, sm_cases, oK, oLK, oL, oI, oA, oJ, oIs, oAs, oJs, oInc, oAdd, oSub, oMul, oDiv, oRem, oNeg, oAnd, oOr, oShl, oI2c, oI2l, oL2i, oLand, oLor, oLshl, oLshr, oLushr, oLcmp, oDup, oDup2, oPop, oGo, oFg, oEq, oNe, oLt, oGe, oGt, oLe, oEq0, oNe0, oLt0, oGe0, oGt0, oLe0, oSw, oGi, oGr, oPi, oPz, oPr, oLen, oIl, oZl, oCl, oRl, oIst, oZst, oCst, oRst, oCopy, oNew, oNa, oNa2, oObj, oCs, oCv, oCi, oIr, oZr, oVr, Nat.beq, List.getElem?_cons_zero, List.getElem?_cons_succ, List.set_cons_zero, List.set_cons_succ, List.length_cons, List.length_nil, List.nil_append, List.cons_append, List.append_nil, List.replicate_succ, List.replicate_zero, Nat.reduceAdd, Nat.reduceSub, Nat.reduceLT, Nat.reduceLeDiff, Nat.reduceBEq, true_and, and_true, Nat.zero_add, Nat.add_zero, Nat.le_refl, Option.some.injEq, exists_eq_left', true_or, or_true, or_false, false_or, reduceCtorEq, Prod.mk.injEq, Sum.inl.injEq, and_self, false_and, and_false, not_true_eq_false, not_false_eq_true, false_implies, true_implies, sm_r, Int.add_zero, Int.zero_add, wI_wsI, wS_wsI, wR_wsI, wI_wCp, wS_wCp, wR_wCp, Nat.reduceEqDiff, reduceIte, sT_iff, sT_iffC, wIf_ne, ne_eq, tb_X8_isStation, p_X8_in, f_X8_in, p_X8_isStation, f_X8_isStation, b01]
  repeat' (first | assumption | with_reducible refine And.intro ?_ ?_ | intro _)
  all_goals first
    | omega
    | rfl
    | (split <;> omega)
    | skip
theorem met_X8_isStation (l : Launch) : sm_Met l yX8_isStation cX8_isStation 1 (some .boolean) 1 0 0 p_X8_isStation f_X8_isStation := sm_met 2 (Or.inr (Or.inr ⟨rfl, rfl⟩)) (by decide +kernel) (sn_X8_isStation l) ok_X8_isStation
def p_X8_isShuttle : List sm_V → sm_W → Prop
  | [.inr (.inl m), .inl x], w => m = 154 ∧ mOK w
  | _, _ => False
def f_X8_isShuttle : sm_F
  | [.inr (.inl m), .inl x], w => (some (.inl (b01 (0 ≤ x ∧ x < wI w 155 1))), w)
  | _, w => (none, w)
def tb_X8_isShuttle : List (Nat × List sm_O) := [(0, [oI 1, oK 0, oA 0, oGr 8 30 0, oK 1, oIl, oK 1, oSub, oCs p_X8_in f_X8_in 0 0 3, oZr])]
set_option maxRecDepth 100000 in
theorem sb_X8_isShuttle_0 (l : Launch) : sm_SndB l RX8 "isShuttle" cX8_isShuttle 2 2 1 0 [oI 1, oK 0, oA 0, oGr 8 30 0, oK 1, oIl, oK 1, oSub, oCs p_X8_in f_X8_in 0 0 3, oZr] := sb_cons (sd_iload_n (by decide +kernel : decode cX8_isShuttle 0 = .ok (.iload_n 1, 1)) rfl) (sb_cons (sd_iconst (by decide +kernel : decode cX8_isShuttle 1 = .ok (.iconst 0, 1)) ⟨by decide, by decide⟩) (sb_cons (sd_aload_n (by decide +kernel : decode cX8_isShuttle 2 = .ok (.aload_n 0, 1)) rfl) (sb_cons (sd_getr (k := 0) kl_8 (by decide) rfl wm_673 (by decide +kernel : decode cX8_isShuttle 3 = .ok (.getfield 7, 3))) (sb_cons (sd_iconst (by decide +kernel : decode cX8_isShuttle 6 = .ok (.iconst 1, 1)) ⟨by decide, by decide⟩) (sb_cons (sd_iaload (by decide +kernel : decode cX8_isShuttle 7 = .ok (.iaload, 1))) (sb_cons (sd_iconst (by decide +kernel : decode cX8_isShuttle 8 = .ok (.iconst 1, 1)) ⟨by decide, by decide⟩) (sb_cons (sd_isub (by decide +kernel : decode cX8_isShuttle 9 = .ok (.isub, 1))) (sb_cons (sd_calls (n := 3) (met_X8_in l) (by decide) (by decide) wm_710 wm_708 wm_10 ⟨by decide +kernel, by decide +kernel, by decide +kernel⟩ wm_709 (by decide +kernel : decode cX8_isShuttle 10 = .ok (.invokestatic 74, 3))) (sb_cons (sd_zreturn (x := 0) rfl (by decide +kernel : decode cX8_isShuttle 13 = .ok (.ireturn, 1))) sb_nil)))))))))
theorem sn_X8_isShuttle (l : Launch) : sm_SndT l RX8 "isShuttle" cX8_isShuttle 2 2 1 tb_X8_isShuttle := st_cons (sb_X8_isShuttle_0 l) (st_nil)
set_option maxRecDepth 100000 in
set_option maxHeartbeats 4000000 in
theorem ok_X8_isShuttle : sm_Ok tb_X8_isShuttle 2 0 0 p_X8_isShuttle f_X8_isShuttle := by
  intro as w hp ha hw
  match as, hp with
  | [.inr (.inl m), .inl x], hp =>
  refine ⟨Nat.le_of_ble_eq_true rfl, fun Z hZ => ?_⟩
  obtain ⟨rfl, hT, hv⟩ := hp
  have h1 := vOK_many hv
  refine hZ (fun _ => false) 40 0 _ _ _ _ _ ?_
  simp only [sm_run, sm_blk, sm_get, sm_ent, sm_ents, sm_wds, sm_wd, sm_nl, sm_pop, sm_back, sm_cases, oK, oLK, oL, oI, oA, oJ, oIs, oAs, oJs, oInc, oAdd, oSub, oMul, oDiv, oRem, oNeg, oAnd, oOr, oShl, oI2c, oI2l, oL2i, oLand, oLor, oLshl, oLshr, oLushr, oLcmp, oDup, oDup2, oPop, oGo, oFg, oEq, oNe, oLt, oGe, oGt, oLe, oEq0, oNe0, oLt0, oGe0, oGt0, oLe0, oSw, oGi, oGr, oPi, oPz, oPr, oLen, oIl, oZl, oCl, oRl, oIst, oZst, oCst, oRst, oCopy, oNew, oNa, oNa2, oObj, oCs, oCv, oCi, oIr, oZr, oVr, Nat.beq, List.getElem?_cons_zero, List.getElem?_cons_succ, List.set_cons_zero, List.set_cons_succ, List.length_cons, List.length_nil, List.nil_append, List.cons_append, List.append_nil, List.replicate_succ, List.replicate_zero, Nat.reduceAdd, Nat.reduceSub, Nat.reduceLT, Nat.reduceLeDiff, Nat.reduceBEq, true_and, and_true, Nat.zero_add, Nat.add_zero, Nat.le_refl, Option.some.injEq, exists_eq_left', true_or, or_true, or_false, false_or, reduceCtorEq, Prod.mk.injEq, Sum.inl.injEq, and_self, false_and, and_false, not_true_eq_false, not_false_eq_true, false_implies, true_implies, sm_r, Int.add_zero, Int.zero_add, wI_wsI, wS_wsI, wR_wsI, wI_wCp, wS_wCp, wR_wCp, Nat.reduceEqDiff, reduceIte, sT_iff, sT_iffC, wIf_ne, ne_eq, tb_X8_isShuttle, p_X8_in, f_X8_in, p_X8_isShuttle, f_X8_isShuttle, sS_154 hT, sR_154_0 hT, sS_155 hT, b01]
  repeat' (first | assumption | with_reducible refine And.intro ?_ ?_ | intro _)
  all_goals first
    | omega
    | rfl
    | (split <;> omega)
    | skip
theorem met_X8_isShuttle (l : Launch) : sm_Met l yX8_isShuttle cX8_isShuttle 2 (some .boolean) 1 0 0 p_X8_isShuttle f_X8_isShuttle := sm_met 2 (Or.inr (Or.inr ⟨rfl, rfl⟩)) (by decide +kernel) (sn_X8_isShuttle l) ok_X8_isShuttle
def mWay (v : Int → Int) (x : Int) : Int := if v (17 + 5 * x) < v (17 + 5 * x + 1) then 1 else -1
def p_X8_way : List sm_V → sm_W → Prop
  | [.inr (.inl m), .inl x], w => m = 154 ∧ sT w ∧ 0 ≤ x ∧ x < 8
  | _, _ => False
def f_X8_way : sm_F
  | [.inr (.inl m), .inl x], w => (some (.inl (mWay (wI w 155) x)), w)
  | _, w => (none, w)
def tb_X8_way : List (Nat × List sm_O) := [(0, [oA 0, oI 1, oK 1, oCv 8 30 p_X8_of f_X8_of 0 0 3, oA 0, oI 1, oK 0, oCv 8 30 p_X8_of f_X8_of 0 0 3, oLe 19, oK 1, oGo 20]),
  (19, [oK (-1), oGo 20]),
  (20, [oIr])]
set_option maxRecDepth 100000 in
theorem sb_X8_way_0 (l : Launch) : sm_SndB l RX8 "way" cX8_way 2 1 1 0 [oA 0, oI 1, oK 1, oCv 8 30 p_X8_of f_X8_of 0 0 3, oA 0, oI 1, oK 0, oCv 8 30 p_X8_of f_X8_of 0 0 3, oLe 19, oK 1, oGo 20] := sb_cons (sd_aload_n (by decide +kernel : decode cX8_way 0 = .ok (.aload_n 0, 1)) rfl) (sb_cons (sd_iload_n (by decide +kernel : decode cX8_way 1 = .ok (.iload_n 1, 1)) rfl) (sb_cons (sd_iconst (by decide +kernel : decode cX8_way 2 = .ok (.iconst 1, 1)) ⟨by decide, by decide⟩) (sb_cons (sd_callv (n := 2) (met_X8_of l) (by decide) (by decide) wm_778 wm_776 wm_10 ⟨by decide +kernel, by decide +kernel, by decide +kernel⟩ kl_8 wm_777 wm_1113 (by decide +kernel : decode cX8_way 3 = .ok (.invokevirtual 78, 3))) (sb_cons (sd_aload_n (by decide +kernel : decode cX8_way 6 = .ok (.aload_n 0, 1)) rfl) (sb_cons (sd_iload_n (by decide +kernel : decode cX8_way 7 = .ok (.iload_n 1, 1)) rfl) (sb_cons (sd_iconst (by decide +kernel : decode cX8_way 8 = .ok (.iconst 0, 1)) ⟨by decide, by decide⟩) (sb_cons (sd_callv (n := 2) (met_X8_of l) (by decide) (by decide) wm_778 wm_776 wm_10 ⟨by decide +kernel, by decide +kernel, by decide +kernel⟩ kl_8 wm_777 wm_1113 (by decide +kernel : decode cX8_way 9 = .ok (.invokevirtual 78, 3))) (sb_cons (sd_le (by decide +kernel : decode cX8_way 12 = .ok (.if_icmp .le 7, 3)) (by decide)) (sb_cons (sd_iconst (by decide +kernel : decode cX8_way 15 = .ok (.iconst 1, 1)) ⟨by decide, by decide⟩) (sb_cons (sd_goto (x := 0) (by decide +kernel : decode cX8_way 16 = .ok (.goto 4, 3)) (by decide)) sb_nil))))))))))
set_option maxRecDepth 100000 in
theorem sb_X8_way_19 (l : Launch) : sm_SndB l RX8 "way" cX8_way 2 1 1 19 [oK (-1), oGo 20] := sb_cons (sd_iconst (by decide +kernel : decode cX8_way 19 = .ok (.iconst (-1), 1)) ⟨by decide, by decide⟩) (sb_cons (sd_fall (x := 0)) sb_nil)
set_option maxRecDepth 100000 in
theorem sb_X8_way_20 (l : Launch) : sm_SndB l RX8 "way" cX8_way 2 1 1 20 [oIr] := sb_cons (sd_ireturn (x := 0) rfl (by decide +kernel : decode cX8_way 20 = .ok (.ireturn, 1))) sb_nil
theorem sn_X8_way (l : Launch) : sm_SndT l RX8 "way" cX8_way 2 1 1 tb_X8_way := st_cons (sb_X8_way_0 l) (st_cons (sb_X8_way_19 l) (st_cons (sb_X8_way_20 l) (st_nil)))
set_option maxRecDepth 100000 in
set_option maxHeartbeats 4000000 in
theorem ok_X8_way : sm_Ok tb_X8_way 2 0 0 p_X8_way f_X8_way := by
  intro as w hp ha hw
  match as, hp with
  | [.inr (.inl m), .inl x], hp =>
  refine ⟨Nat.le_of_ble_eq_true rfl, fun Z hZ => ?_⟩
  obtain ⟨rfl, hT, h1, h2⟩ := hp
  refine hZ (fun _ => false) 40 0 _ _ _ _ _ ?_
  simp only [sm_run, sm_blk, sm_get, sm_ent, sm_ents, sm_wds, sm_wd, sm_nl, sm_pop, sm_back, sm_cases, oK, oLK, oL, oI, oA, oJ, oIs, oAs, oJs, oInc, oAdd, oSub, oMul, oDiv, oRem, oNeg, oAnd, oOr, oShl, oI2c, oI2l, oL2i, oLand, oLor, oLshl, oLshr, oLushr, oLcmp, oDup, oDup2, oPop, oGo, oFg, oEq, oNe, oLt, oGe, oGt, oLe, oEq0, oNe0, oLt0, oGe0, oGt0, oLe0, oSw, oGi, oGr, oPi, oPz, oPr, oLen, oIl, oZl, oCl, oRl, oIst, oZst, oCst, oRst, oCopy, oNew, oNa, oNa2, oObj, oCs, oCv, oCi, oIr, oZr, oVr, Nat.beq, List.getElem?_cons_zero, List.getElem?_cons_succ, List.set_cons_zero, List.set_cons_succ, List.length_cons, List.length_nil, List.nil_append, List.cons_append, List.append_nil, List.replicate_succ, List.replicate_zero, Nat.reduceAdd, Nat.reduceSub, Nat.reduceLT, Nat.reduceLeDiff, Nat.reduceBEq, true_and, and_true, Nat.zero_add, Nat.add_zero, Nat.le_refl, Option.some.injEq, exists_eq_left', true_or, or_true, or_false, false_or, reduceCtorEq, Prod.mk.injEq, Sum.inl.injEq, and_self, false_and, and_false, not_true_eq_false, not_false_eq_true, false_implies, true_implies, sm_r, Int.add_zero, Int.zero_add, wI_wsI, wS_wsI, wR_wsI, wI_wCp, wS_wCp, wR_wCp, Nat.reduceEqDiff, reduceIte, sT_iff, sT_iffC, wIf_ne, ne_eq, tb_X8_way, p_X8_of, f_X8_of, p_X8_way, f_X8_way, sS_154 hT, sR_154_0 hT, sS_155 hT, mWay]
  repeat' (first | assumption | with_reducible refine And.intro ?_ ?_ | intro _)
  all_goals first
    | omega
    | rfl
    | (split <;> omega)
    | skip
theorem met_X8_way (l : Launch) : sm_Met l yX8_way cX8_way 2 (some .int) 1 0 0 p_X8_way f_X8_way := sm_met 1 (Or.inr (Or.inl ⟨rfl, rfl⟩)) (by decide +kernel) (sn_X8_way l) ok_X8_way
def sFrom (st wy : Int) : Int := if 0 < wy then st else st - 1
def p_X8_stretchFrom : List sm_V → sm_W → Prop
  | [.inl st, .inl wy], w => -100 ≤ st ∧ st ≤ 100
  | _, _ => False
def f_X8_stretchFrom : sm_F
  | [.inl st, .inl wy], w => (some (.inl (sFrom st wy)), w)
  | _, w => (none, w)
def tb_X8_stretchFrom : List (Nat × List sm_O) := [(0, [oI 1, oLe0 8, oI 0, oGo 11]),
  (8, [oI 0, oK 1, oSub, oGo 11]),
  (11, [oIr])]
set_option maxRecDepth 100000 in
theorem sb_X8_stretchFrom_0 (l : Launch) : sm_SndB l RX8 "stretchFrom" cX8_stretchFrom 2 1 0 0 [oI 1, oLe0 8, oI 0, oGo 11] := sb_cons (sd_iload_n (by decide +kernel : decode cX8_stretchFrom 0 = .ok (.iload_n 1, 1)) rfl) (sb_cons (sd_le0 (by decide +kernel : decode cX8_stretchFrom 1 = .ok (.ifCond .le 7, 3)) (by decide)) (sb_cons (sd_iload_n (by decide +kernel : decode cX8_stretchFrom 4 = .ok (.iload_n 0, 1)) rfl) (sb_cons (sd_goto (x := 0) (by decide +kernel : decode cX8_stretchFrom 5 = .ok (.goto 6, 3)) (by decide)) sb_nil)))
set_option maxRecDepth 100000 in
theorem sb_X8_stretchFrom_8 (l : Launch) : sm_SndB l RX8 "stretchFrom" cX8_stretchFrom 2 1 0 8 [oI 0, oK 1, oSub, oGo 11] := sb_cons (sd_iload_n (by decide +kernel : decode cX8_stretchFrom 8 = .ok (.iload_n 0, 1)) rfl) (sb_cons (sd_iconst (by decide +kernel : decode cX8_stretchFrom 9 = .ok (.iconst 1, 1)) ⟨by decide, by decide⟩) (sb_cons (sd_isub (by decide +kernel : decode cX8_stretchFrom 10 = .ok (.isub, 1))) (sb_cons (sd_fall (x := 0)) sb_nil)))
set_option maxRecDepth 100000 in
theorem sb_X8_stretchFrom_11 (l : Launch) : sm_SndB l RX8 "stretchFrom" cX8_stretchFrom 2 1 0 11 [oIr] := sb_cons (sd_ireturn (x := 0) rfl (by decide +kernel : decode cX8_stretchFrom 11 = .ok (.ireturn, 1))) sb_nil
theorem sn_X8_stretchFrom (l : Launch) : sm_SndT l RX8 "stretchFrom" cX8_stretchFrom 2 1 0 tb_X8_stretchFrom := st_cons (sb_X8_stretchFrom_0 l) (st_cons (sb_X8_stretchFrom_8 l) (st_cons (sb_X8_stretchFrom_11 l) (st_nil)))
set_option maxRecDepth 100000 in
set_option maxHeartbeats 4000000 in
theorem ok_X8_stretchFrom : sm_Ok tb_X8_stretchFrom 2 0 0 p_X8_stretchFrom f_X8_stretchFrom := by
  intro as w hp ha hw
  match as, hp with
  | [.inl st, .inl wy], hp =>
  refine ⟨Nat.le_of_ble_eq_true rfl, fun Z hZ => ?_⟩
  obtain ⟨h1, h2⟩ := hp
  refine hZ (fun _ => false) 40 0 _ _ _ _ _ ?_
  simp only [sm_run, sm_blk, sm_get, sm_ent, sm_ents, sm_wds, sm_wd, sm_nl, sm_pop, sm_back, sm_cases, oK, oLK, oL, oI, oA, oJ, oIs, oAs, oJs, oInc, oAdd, oSub, oMul, oDiv, oRem, oNeg, oAnd, oOr, oShl, oI2c, oI2l, oL2i, oLand, oLor, oLshl, oLshr, oLushr, oLcmp, oDup, oDup2, oPop, oGo, oFg, oEq, oNe, oLt, oGe, oGt, oLe, oEq0, oNe0, oLt0, oGe0, oGt0, oLe0, oSw, oGi, oGr, oPi, oPz, oPr, oLen, oIl, oZl, oCl, oRl, oIst, oZst, oCst, oRst, oCopy, oNew, oNa, oNa2, oObj, oCs, oCv, oCi, oIr, oZr, oVr, Nat.beq, List.getElem?_cons_zero, List.getElem?_cons_succ, List.set_cons_zero, List.set_cons_succ, List.length_cons, List.length_nil, List.nil_append, List.cons_append, List.append_nil, List.replicate_succ, List.replicate_zero, Nat.reduceAdd, Nat.reduceSub, Nat.reduceLT, Nat.reduceLeDiff, Nat.reduceBEq, true_and, and_true, Nat.zero_add, Nat.add_zero, Nat.le_refl, Option.some.injEq, exists_eq_left', true_or, or_true, or_false, false_or, reduceCtorEq, Prod.mk.injEq, Sum.inl.injEq, and_self, false_and, and_false, not_true_eq_false, not_false_eq_true, false_implies, true_implies, sm_r, Int.add_zero, Int.zero_add, wI_wsI, wS_wsI, wR_wsI, wI_wCp, wS_wCp, wR_wCp, Nat.reduceEqDiff, reduceIte, sT_iff, sT_iffC, wIf_ne, ne_eq, tb_X8_stretchFrom, p_X8_stretchFrom, f_X8_stretchFrom, sFrom]
  repeat' (first | assumption | with_reducible refine And.intro ?_ ?_ | intro _)
  all_goals first
    | omega
    | rfl
    | (split <;> omega)
    | skip
theorem met_X8_stretchFrom (l : Launch) : sm_Met l yX8_stretchFrom cX8_stretchFrom 2 (some .int) 0 0 0 p_X8_stretchFrom f_X8_stretchFrom := sm_met 1 (Or.inr (Or.inl ⟨rfl, rfl⟩)) (by decide +kernel) (sn_X8_stretchFrom l) ok_X8_stretchFrom
def mReady (w : sm_W) (x : Int) : Int := if wI w 160 x = 0 then wI w 155 (17 + 5 * x + 2) else wI w 162 x + wI w 155 (17 + 5 * x + 3)
def p_X8_readyAt : List sm_V → sm_W → Prop
  | [.inr (.inl m), .inl x], w => m = 154 ∧ mOK w ∧ 0 ≤ x ∧ x < wI w 155 1 ∧ 0 ≤ wI w 162 x ∧ wI w 162 x ≤ 100000
  | _, _ => False
def f_X8_readyAt : sm_F
  | [.inr (.inl m), .inl x], w => (some (.inl (mReady w x)), w)
  | _, w => (none, w)
def tb_X8_readyAt : List (Nat × List sm_O) := [(0, [oA 0, oGr 8 30 7, oI 1, oIl, oNe0 18, oA 0, oI 1, oK 2, oCv 8 30 p_X8_of f_X8_of 0 0 3, oGo 31]),
  (18, [oA 0, oGr 8 30 9, oI 1, oIl, oA 0, oI 1, oK 3, oCv 8 30 p_X8_of f_X8_of 0 0 3, oAdd, oGo 31]),
  (31, [oIr])]
set_option maxRecDepth 100000 in
theorem sb_X8_readyAt_0 (l : Launch) : sm_SndB l RX8 "readyAt" cX8_readyAt 2 1 1 0 [oA 0, oGr 8 30 7, oI 1, oIl, oNe0 18, oA 0, oI 1, oK 2, oCv 8 30 p_X8_of f_X8_of 0 0 3, oGo 31] := sb_cons (sd_aload_n (by decide +kernel : decode cX8_readyAt 0 = .ok (.aload_n 0, 1)) rfl) (sb_cons (sd_getr (k := 7) kl_8 (by decide) rfl wm_680 (by decide +kernel : decode cX8_readyAt 1 = .ok (.getfield 26, 3))) (sb_cons (sd_iload_n (by decide +kernel : decode cX8_readyAt 4 = .ok (.iload_n 1, 1)) rfl) (sb_cons (sd_iaload (by decide +kernel : decode cX8_readyAt 5 = .ok (.iaload, 1))) (sb_cons (sd_ne0 (by decide +kernel : decode cX8_readyAt 6 = .ok (.ifCond .ne 12, 3)) (by decide)) (sb_cons (sd_aload_n (by decide +kernel : decode cX8_readyAt 9 = .ok (.aload_n 0, 1)) rfl) (sb_cons (sd_iload_n (by decide +kernel : decode cX8_readyAt 10 = .ok (.iload_n 1, 1)) rfl) (sb_cons (sd_iconst (by decide +kernel : decode cX8_readyAt 11 = .ok (.iconst 2, 1)) ⟨by decide, by decide⟩) (sb_cons (sd_callv (n := 2) (met_X8_of l) (by decide) (by decide) wm_778 wm_776 wm_10 ⟨by decide +kernel, by decide +kernel, by decide +kernel⟩ kl_8 wm_777 wm_1113 (by decide +kernel : decode cX8_readyAt 12 = .ok (.invokevirtual 78, 3))) (sb_cons (sd_goto (x := 0) (by decide +kernel : decode cX8_readyAt 15 = .ok (.goto 16, 3)) (by decide)) sb_nil)))))))))
set_option maxRecDepth 100000 in
theorem sb_X8_readyAt_18 (l : Launch) : sm_SndB l RX8 "readyAt" cX8_readyAt 2 1 1 18 [oA 0, oGr 8 30 9, oI 1, oIl, oA 0, oI 1, oK 3, oCv 8 30 p_X8_of f_X8_of 0 0 3, oAdd, oGo 31] := sb_cons (sd_aload_n (by decide +kernel : decode cX8_readyAt 18 = .ok (.aload_n 0, 1)) rfl) (sb_cons (sd_getr (k := 9) kl_8 (by decide) rfl wm_682 (by decide +kernel : decode cX8_readyAt 19 = .ok (.getfield 32, 3))) (sb_cons (sd_iload_n (by decide +kernel : decode cX8_readyAt 22 = .ok (.iload_n 1, 1)) rfl) (sb_cons (sd_iaload (by decide +kernel : decode cX8_readyAt 23 = .ok (.iaload, 1))) (sb_cons (sd_aload_n (by decide +kernel : decode cX8_readyAt 24 = .ok (.aload_n 0, 1)) rfl) (sb_cons (sd_iload_n (by decide +kernel : decode cX8_readyAt 25 = .ok (.iload_n 1, 1)) rfl) (sb_cons (sd_iconst (by decide +kernel : decode cX8_readyAt 26 = .ok (.iconst 3, 1)) ⟨by decide, by decide⟩) (sb_cons (sd_callv (n := 2) (met_X8_of l) (by decide) (by decide) wm_778 wm_776 wm_10 ⟨by decide +kernel, by decide +kernel, by decide +kernel⟩ kl_8 wm_777 wm_1113 (by decide +kernel : decode cX8_readyAt 27 = .ok (.invokevirtual 78, 3))) (sb_cons (sd_iadd (by decide +kernel : decode cX8_readyAt 30 = .ok (.iadd, 1))) (sb_cons (sd_fall (x := 0)) sb_nil)))))))))
set_option maxRecDepth 100000 in
theorem sb_X8_readyAt_31 (l : Launch) : sm_SndB l RX8 "readyAt" cX8_readyAt 2 1 1 31 [oIr] := sb_cons (sd_ireturn (x := 0) rfl (by decide +kernel : decode cX8_readyAt 31 = .ok (.ireturn, 1))) sb_nil
theorem sn_X8_readyAt (l : Launch) : sm_SndT l RX8 "readyAt" cX8_readyAt 2 1 1 tb_X8_readyAt := st_cons (sb_X8_readyAt_0 l) (st_cons (sb_X8_readyAt_18 l) (st_cons (sb_X8_readyAt_31 l) (st_nil)))
set_option maxRecDepth 100000 in
set_option maxHeartbeats 4000000 in
theorem ok_X8_readyAt : sm_Ok tb_X8_readyAt 2 0 0 p_X8_readyAt f_X8_readyAt := by
  intro as w hp ha hw
  match as, hp with
  | [.inr (.inl m), .inl x], hp =>
  refine ⟨Nat.le_of_ble_eq_true rfl, fun Z hZ => ?_⟩
  obtain ⟨rfl, ⟨hT, hv⟩, h1, h2, h3, h4⟩ := hp
  have hm := vOK_many hv
  have hx := vOK_sh hv h1 h2
  refine hZ (fun _ => false) 40 0 _ _ _ _ _ ?_
  simp only [sm_run, sm_blk, sm_get, sm_ent, sm_ents, sm_wds, sm_wd, sm_nl, sm_pop, sm_back, sm_cases, oK, oLK, oL, oI, oA, oJ, oIs, oAs, oJs, oInc, oAdd, oSub, oMul, oDiv, oRem, oNeg, oAnd, oOr, oShl, oI2c, oI2l, oL2i, oLand, oLor, oLshl, oLshr, oLushr, oLcmp, oDup, oDup2, oPop, oGo, oFg, oEq, oNe, oLt, oGe, oGt, oLe, oEq0, oNe0, oLt0, oGe0, oGt0, oLe0, oSw, oGi, oGr, oPi, oPz, oPr, oLen, oIl, oZl, oCl, oRl, oIst, oZst, oCst, oRst, oCopy, oNew, oNa, oNa2, oObj, oCs, oCv, oCi, oIr, oZr, oVr, Nat.beq, List.getElem?_cons_zero, List.getElem?_cons_succ, List.set_cons_zero, List.set_cons_succ, List.length_cons, List.length_nil, List.nil_append, List.cons_append, List.append_nil, List.replicate_succ, List.replicate_zero, Nat.reduceAdd, Nat.reduceSub, Nat.reduceLT, Nat.reduceLeDiff, Nat.reduceBEq, true_and, and_true, Nat.zero_add, Nat.add_zero, Nat.le_refl, Option.some.injEq, exists_eq_left', true_or, or_true, or_false, false_or, reduceCtorEq, Prod.mk.injEq, Sum.inl.injEq, and_self, false_and, and_false, not_true_eq_false, not_false_eq_true, false_implies, true_implies, sm_r, Int.add_zero, Int.zero_add, wI_wsI, wS_wsI, wR_wsI, wI_wCp, wS_wCp, wR_wCp, Nat.reduceEqDiff, reduceIte, sT_iff, sT_iffC, wIf_ne, ne_eq, tb_X8_readyAt, p_X8_of, f_X8_of, p_X8_readyAt, f_X8_readyAt, sS_154 hT, sR_154_0 hT, sS_155 hT, sR_154_7 hT, sS_160 hT, sR_154_9 hT, sS_162 hT, mReady]
  repeat' (first | assumption | with_reducible refine And.intro ?_ ?_ | intro _)
  all_goals first
    | omega
    | rfl
    | (split <;> omega)
    | skip
theorem met_X8_readyAt (l : Launch) : sm_Met l yX8_readyAt cX8_readyAt 2 (some .int) 1 0 0 p_X8_readyAt f_X8_readyAt := sm_met 1 (Or.inr (Or.inl ⟨rfl, rfl⟩)) (by decide +kernel) (sn_X8_readyAt l) ok_X8_readyAt
def mIsReady (w : sm_W) (x t : Int) : Prop := wI w 160 x ≤ 1 ∧ mReady w x ≤ t
def mIsReadyD (w : sm_W) (x t : Int) : Decidable (mIsReady w x t) := inferInstanceAs (Decidable (_ ∧ _))
def p_X8_isReady : List sm_V → sm_W → Prop
  | [.inr (.inl m), .inl x, .inl t], w => m = 154 ∧ mOK w ∧ 0 ≤ x ∧ x < wI w 155 1 ∧ 0 ≤ wI w 162 x ∧ wI w 162 x ≤ 100000
  | _, _ => False
def f_X8_isReady : sm_F
  | [.inr (.inl m), .inl x, .inl t], w => (some (.inl (if wI w 160 x ≤ 1 ∧ mReady w x ≤ t then 1 else 0)), w)
  | _, w => (none, w)
def tb_X8_isReady : List (Nat × List sm_O) := [(0, [oA 0, oGr 8 30 7, oI 1, oIl, oK 1, oGt 23, oI 2, oA 0, oI 1, oCv 8 30 p_X8_readyAt f_X8_readyAt 0 0 2, oLt 23, oK 1, oGo 24]),
  (23, [oK 0, oGo 24]),
  (24, [oZr])]
set_option maxRecDepth 100000 in
theorem sb_X8_isReady_0 (l : Launch) : sm_SndB l RX8 "isReady" cX8_isReady 3 2 2 0 [oA 0, oGr 8 30 7, oI 1, oIl, oK 1, oGt 23, oI 2, oA 0, oI 1, oCv 8 30 p_X8_readyAt f_X8_readyAt 0 0 2, oLt 23, oK 1, oGo 24] := sb_cons (sd_aload_n (by decide +kernel : decode cX8_isReady 0 = .ok (.aload_n 0, 1)) rfl) (sb_cons (sd_getr (k := 7) kl_8 (by decide) rfl wm_680 (by decide +kernel : decode cX8_isReady 1 = .ok (.getfield 26, 3))) (sb_cons (sd_iload_n (by decide +kernel : decode cX8_isReady 4 = .ok (.iload_n 1, 1)) rfl) (sb_cons (sd_iaload (by decide +kernel : decode cX8_isReady 5 = .ok (.iaload, 1))) (sb_cons (sd_iconst (by decide +kernel : decode cX8_isReady 6 = .ok (.iconst 1, 1)) ⟨by decide, by decide⟩) (sb_cons (sd_gt (by decide +kernel : decode cX8_isReady 7 = .ok (.if_icmp .gt 16, 3)) (by decide)) (sb_cons (sd_iload_n (by decide +kernel : decode cX8_isReady 10 = .ok (.iload_n 2, 1)) rfl) (sb_cons (sd_aload_n (by decide +kernel : decode cX8_isReady 11 = .ok (.aload_n 0, 1)) rfl) (sb_cons (sd_iload_n (by decide +kernel : decode cX8_isReady 12 = .ok (.iload_n 1, 1)) rfl) (sb_cons (sd_callv (n := 1) (met_X8_readyAt l) (by decide) (by decide) wm_845 wm_843 wm_10 ⟨by decide +kernel, by decide +kernel, by decide +kernel⟩ kl_8 wm_844 wm_1126 (by decide +kernel : decode cX8_isReady 13 = .ok (.invokevirtual 99, 3))) (sb_cons (sd_lt (by decide +kernel : decode cX8_isReady 16 = .ok (.if_icmp .lt 7, 3)) (by decide)) (sb_cons (sd_iconst (by decide +kernel : decode cX8_isReady 19 = .ok (.iconst 1, 1)) ⟨by decide, by decide⟩) (sb_cons (sd_goto (x := 0) (by decide +kernel : decode cX8_isReady 20 = .ok (.goto 4, 3)) (by decide)) sb_nil))))))))))))
set_option maxRecDepth 100000 in
theorem sb_X8_isReady_23 (l : Launch) : sm_SndB l RX8 "isReady" cX8_isReady 3 2 2 23 [oK 0, oGo 24] := sb_cons (sd_iconst (by decide +kernel : decode cX8_isReady 23 = .ok (.iconst 0, 1)) ⟨by decide, by decide⟩) (sb_cons (sd_fall (x := 0)) sb_nil)
set_option maxRecDepth 100000 in
theorem sb_X8_isReady_24 (l : Launch) : sm_SndB l RX8 "isReady" cX8_isReady 3 2 2 24 [oZr] := sb_cons (sd_zreturn (x := 0) rfl (by decide +kernel : decode cX8_isReady 24 = .ok (.ireturn, 1))) sb_nil
theorem sn_X8_isReady (l : Launch) : sm_SndT l RX8 "isReady" cX8_isReady 3 2 2 tb_X8_isReady := st_cons (sb_X8_isReady_0 l) (st_cons (sb_X8_isReady_23 l) (st_cons (sb_X8_isReady_24 l) (st_nil)))
set_option maxRecDepth 100000 in
set_option maxHeartbeats 4000000 in
theorem ok_X8_isReady : sm_Ok tb_X8_isReady 3 0 0 p_X8_isReady f_X8_isReady := by
  intro as w hp ha hw
  match as, hp with
  | [.inr (.inl m), .inl x, .inl t], hp =>
  refine ⟨Nat.le_of_ble_eq_true rfl, fun Z hZ => ?_⟩
  obtain ⟨rfl, ⟨hT, hv⟩, h1, h2, h3, h4⟩ := hp
  have hm := vOK_many hv
  refine hZ (fun _ => false) 40 0 _ _ _ _ _ ?_
  simp only [sm_run, sm_blk, sm_get, sm_ent, sm_ents, sm_wds, sm_wd, sm_nl, sm_pop, sm_back, sm_cases, oK, oLK, oL, oI, oA, oJ, oIs, oAs, oJs, oInc, oAdd, oSub, oMul, oDiv, oRem, oNeg, oAnd, oOr, oShl, oI2c, oI2l, oL2i, oLand, oLor, oLshl, oLshr, oLushr, oLcmp, oDup, oDup2, oPop, oGo, oFg, oEq, oNe, oLt, oGe, oGt, oLe, oEq0, oNe0, oLt0, oGe0, oGt0, oLe0, oSw, oGi, oGr, oPi, oPz, oPr, oLen, oIl, oZl, oCl, oRl, oIst, oZst, oCst, oRst, oCopy, oNew, oNa, oNa2, oObj, oCs, oCv, oCi, oIr, oZr, oVr, Nat.beq, List.getElem?_cons_zero, List.getElem?_cons_succ, List.set_cons_zero, List.set_cons_succ, List.length_cons, List.length_nil, List.nil_append, List.cons_append, List.append_nil, List.replicate_succ, List.replicate_zero, Nat.reduceAdd, Nat.reduceSub, Nat.reduceLT, Nat.reduceLeDiff, Nat.reduceBEq, true_and, and_true, Nat.zero_add, Nat.add_zero, Nat.le_refl, Option.some.injEq, exists_eq_left', true_or, or_true, or_false, false_or, reduceCtorEq, Prod.mk.injEq, Sum.inl.injEq, and_self, false_and, and_false, not_true_eq_false, not_false_eq_true, false_implies, true_implies, sm_r, Int.add_zero, Int.zero_add, wI_wsI, wS_wsI, wR_wsI, wI_wCp, wS_wCp, wR_wCp, Nat.reduceEqDiff, reduceIte, sT_iff, sT_iffC, wIf_ne, ne_eq, tb_X8_isReady, p_X8_readyAt, f_X8_readyAt, p_X8_isReady, f_X8_isReady, sS_154 hT, sR_154_7 hT, sS_160 hT, mOK, hT, hv]
  repeat' (first | assumption | with_reducible refine And.intro ?_ ?_ | intro _)
  all_goals first
    | omega
    | rfl
    | (split <;> omega)
    | skip
theorem met_X8_isReady (l : Launch) : sm_Met l yX8_isReady cX8_isReady 3 (some .boolean) 2 0 0 p_X8_isReady f_X8_isReady := sm_met 2 (Or.inr (Or.inr ⟨rfl, rfl⟩)) (by decide +kernel) (sn_X8_isReady l) ok_X8_isReady
def mWho (w : sm_W) (s : Int) : Int → Int := itI (fun x r => if wI w 160 x = 2 then (if wI w 161 x = s then x else r) else r) (-6)
def p_X8_whoIsOn : List sm_V → sm_W → Prop
  | [.inr (.inl m), .inl s], w => m = 154 ∧ mOK w
  | _, _ => False
def f_X8_whoIsOn : sm_F
  | [.inr (.inl m), .inl s], w => (some (.inl (mWho w s (wI w 155 1))), w)
  | _, w => (none, w)
def tb_X8_whoIsOn : List (Nat × List sm_O) := [(0, [oK (-6), oIs 2, oK 0, oIs 3, oGo 5]),
  (5, [oI 3, oA 0, oGr 8 30 0, oK 1, oIl, oGe 47, oA 0, oGr 8 30 7, oI 3, oIl, oK 2, oNe 39, oA 0, oGr 8 30 8, oI 3, oIl, oI 1, oNe 39, oI 3, oGo 40]),
  (39, [oI 2, oGo 40]),
  (40, [oIs 2, oInc 3 1, oGo 5]),
  (47, [oI 2, oIr])]
set_option maxRecDepth 100000 in
theorem sb_X8_whoIsOn_0 (l : Launch) : sm_SndB l RX8 "whoIsOn" cX8_whoIsOn 4 1 0 0 [oK (-6), oIs 2, oK 0, oIs 3, oGo 5] := sb_cons (sd_bipush (by decide +kernel : decode cX8_whoIsOn 0 = .ok (.bipush (-6), 2)) ⟨by decide, by decide⟩ (by decide)) (sb_cons (sd_istore_n (by decide +kernel : decode cX8_whoIsOn 2 = .ok (.istore_n 2, 1)) rfl) (sb_cons (sd_iconst (by decide +kernel : decode cX8_whoIsOn 3 = .ok (.iconst 0, 1)) ⟨by decide, by decide⟩) (sb_cons (sd_istore_n (by decide +kernel : decode cX8_whoIsOn 4 = .ok (.istore_n 3, 1)) rfl) (sb_cons (sd_fall (x := 0)) sb_nil))))
set_option maxRecDepth 100000 in
theorem sb_X8_whoIsOn_5 (l : Launch) : sm_SndB l RX8 "whoIsOn" cX8_whoIsOn 4 1 0 5 [oI 3, oA 0, oGr 8 30 0, oK 1, oIl, oGe 47, oA 0, oGr 8 30 7, oI 3, oIl, oK 2, oNe 39, oA 0, oGr 8 30 8, oI 3, oIl, oI 1, oNe 39, oI 3, oGo 40] := sb_cons (sd_iload_n (by decide +kernel : decode cX8_whoIsOn 5 = .ok (.iload_n 3, 1)) rfl) (sb_cons (sd_aload_n (by decide +kernel : decode cX8_whoIsOn 6 = .ok (.aload_n 0, 1)) rfl) (sb_cons (sd_getr (k := 0) kl_8 (by decide) rfl wm_673 (by decide +kernel : decode cX8_whoIsOn 7 = .ok (.getfield 7, 3))) (sb_cons (sd_iconst (by decide +kernel : decode cX8_whoIsOn 10 = .ok (.iconst 1, 1)) ⟨by decide, by decide⟩) (sb_cons (sd_iaload (by decide +kernel : decode cX8_whoIsOn 11 = .ok (.iaload, 1))) (sb_cons (sd_ge (by decide +kernel : decode cX8_whoIsOn 12 = .ok (.if_icmp .ge 35, 3)) (by decide)) (sb_cons (sd_aload_n (by decide +kernel : decode cX8_whoIsOn 15 = .ok (.aload_n 0, 1)) rfl) (sb_cons (sd_getr (k := 7) kl_8 (by decide) rfl wm_680 (by decide +kernel : decode cX8_whoIsOn 16 = .ok (.getfield 26, 3))) (sb_cons (sd_iload_n (by decide +kernel : decode cX8_whoIsOn 19 = .ok (.iload_n 3, 1)) rfl) (sb_cons (sd_iaload (by decide +kernel : decode cX8_whoIsOn 20 = .ok (.iaload, 1))) (sb_cons (sd_iconst (by decide +kernel : decode cX8_whoIsOn 21 = .ok (.iconst 2, 1)) ⟨by decide, by decide⟩) (sb_cons (sd_ne (by decide +kernel : decode cX8_whoIsOn 22 = .ok (.if_icmp .ne 17, 3)) (by decide)) (sb_cons (sd_aload_n (by decide +kernel : decode cX8_whoIsOn 25 = .ok (.aload_n 0, 1)) rfl) (sb_cons (sd_getr (k := 8) kl_8 (by decide) rfl wm_681 (by decide +kernel : decode cX8_whoIsOn 26 = .ok (.getfield 29, 3))) (sb_cons (sd_iload_n (by decide +kernel : decode cX8_whoIsOn 29 = .ok (.iload_n 3, 1)) rfl) (sb_cons (sd_iaload (by decide +kernel : decode cX8_whoIsOn 30 = .ok (.iaload, 1))) (sb_cons (sd_iload_n (by decide +kernel : decode cX8_whoIsOn 31 = .ok (.iload_n 1, 1)) rfl) (sb_cons (sd_ne (by decide +kernel : decode cX8_whoIsOn 32 = .ok (.if_icmp .ne 7, 3)) (by decide)) (sb_cons (sd_iload_n (by decide +kernel : decode cX8_whoIsOn 35 = .ok (.iload_n 3, 1)) rfl) (sb_cons (sd_goto (x := 0) (by decide +kernel : decode cX8_whoIsOn 36 = .ok (.goto 4, 3)) (by decide)) sb_nil)))))))))))))))))))
set_option maxRecDepth 100000 in
theorem sb_X8_whoIsOn_39 (l : Launch) : sm_SndB l RX8 "whoIsOn" cX8_whoIsOn 4 1 0 39 [oI 2, oGo 40] := sb_cons (sd_iload_n (by decide +kernel : decode cX8_whoIsOn 39 = .ok (.iload_n 2, 1)) rfl) (sb_cons (sd_fall (x := 0)) sb_nil)
set_option maxRecDepth 100000 in
theorem sb_X8_whoIsOn_40 (l : Launch) : sm_SndB l RX8 "whoIsOn" cX8_whoIsOn 4 1 0 40 [oIs 2, oInc 3 1, oGo 5] := sb_cons (sd_istore_n (by decide +kernel : decode cX8_whoIsOn 40 = .ok (.istore_n 2, 1)) rfl) (sb_cons (sd_iinc (by decide +kernel : decode cX8_whoIsOn 41 = .ok (.iinc 3 1, 3))) (sb_cons (sd_goto (x := 0) (by decide +kernel : decode cX8_whoIsOn 44 = .ok (.goto (-39), 3)) (by decide)) sb_nil))
set_option maxRecDepth 100000 in
theorem sb_X8_whoIsOn_47 (l : Launch) : sm_SndB l RX8 "whoIsOn" cX8_whoIsOn 4 1 0 47 [oI 2, oIr] := sb_cons (sd_iload_n (by decide +kernel : decode cX8_whoIsOn 47 = .ok (.iload_n 2, 1)) rfl) (sb_cons (sd_ireturn (x := 0) rfl (by decide +kernel : decode cX8_whoIsOn 48 = .ok (.ireturn, 1))) sb_nil)
theorem sn_X8_whoIsOn (l : Launch) : sm_SndT l RX8 "whoIsOn" cX8_whoIsOn 4 1 0 tb_X8_whoIsOn := st_cons (sb_X8_whoIsOn_0 l) (st_cons (sb_X8_whoIsOn_5 l) (st_cons (sb_X8_whoIsOn_39 l) (st_cons (sb_X8_whoIsOn_40 l) (st_cons (sb_X8_whoIsOn_47 l) (st_nil)))))
set_option maxRecDepth 100000 in
set_option maxHeartbeats 4000000 in
theorem ok_X8_whoIsOn : sm_Ok tb_X8_whoIsOn 4 0 0 p_X8_whoIsOn f_X8_whoIsOn := by
  intro as w hp ha hw
  match as, hp with
  | [.inr (.inl m), .inl s], hp =>
  refine ⟨Nat.le_of_ble_eq_true rfl, fun Z hZ => ?_⟩
  obtain ⟨rfl, hT, hv⟩ := hp
  have hm := vOK_many hv
  have hl := sm_loopI Z 5 0 (wI w 155 1) (fun i => [some (.inr (.inl 154)), some (.inl s), some (.inl (mWho w s i)), some (.inl i)]) (fun _ => w) 0 0 hm.1 (fun i h0 h1 ih => by
  unfold mWho at ih
  rw [itI_s _ _ h0] at ih
  refine hZ (fun u => Nat.beq u 5) 40 5 _ _ _ _ _ ?_
  simp only [sm_run, sm_blk, sm_get, sm_ent, sm_ents, sm_wds, sm_wd, sm_nl, sm_pop, sm_back, sm_cases, oK, oLK, oL, oI, oA, oJ, oIs, oAs, oJs, oInc, oAdd, oSub, oMul, oDiv, oRem, oNeg, oAnd, oOr, oShl, oI2c, oI2l, oL2i, oLand, oLor, oLshl, oLshr, oLushr, oLcmp, oDup, oDup2, oPop, oGo, oFg, oEq, oNe, oLt, oGe, oGt, oLe, oEq0, oNe0, oLt0, oGe0, oGt0, oLe0, oSw, oGi, oGr, oPi, oPz, oPr, oLen, oIl, oZl, oCl, oRl, oIst, oZst, oCst, oRst, oCopy, oNew, oNa, oNa2, oObj, oCs, oCv, oCi, oIr, oZr, oVr, Nat.beq, List.getElem?_cons_zero, List.getElem?_cons_succ, List.set_cons_zero, List.set_cons_succ, List.length_cons, List.length_nil, List.nil_append, List.cons_append, List.append_nil, List.replicate_succ, List.replicate_zero, Nat.reduceAdd, Nat.reduceSub, Nat.reduceLT, Nat.reduceLeDiff, Nat.reduceBEq, true_and, and_true, Nat.zero_add, Nat.add_zero, Nat.le_refl, Option.some.injEq, exists_eq_left', true_or, or_true, or_false, false_or, reduceCtorEq, Prod.mk.injEq, Sum.inl.injEq, and_self, false_and, and_false, not_true_eq_false, not_false_eq_true, false_implies, true_implies, sm_r, Int.add_zero, Int.zero_add, wI_wsI, wS_wsI, wR_wsI, wI_wCp, wS_wCp, wR_wCp, Nat.reduceEqDiff, reduceIte, sT_iff, sT_iffC, wIf_ne, ne_eq, tb_X8_whoIsOn, p_X8_whoIsOn, f_X8_whoIsOn, sS_154 hT, sR_154_0 hT, sS_155 hT, sR_154_7 hT, sS_160 hT, sR_154_8 hT, sS_161 hT]
  repeat' (first | assumption | with_reducible refine And.intro ?_ ?_ | intro _)
  all_goals first
    | omega
    | rfl
    | (split <;> omega)
    | (have k9 := ih (by omega)
       (repeat' split at k9) <;> first | exact k9 | omega)
    | (congr 1; omega)
    | skip
  )
  refine hZ (fun u => Nat.beq u 5) 40 0 _ _ _ _ _ ?_
  simp only [sm_run, sm_blk, sm_get, sm_ent, sm_ents, sm_wds, sm_wd, sm_nl, sm_pop, sm_back, sm_cases, oK, oLK, oL, oI, oA, oJ, oIs, oAs, oJs, oInc, oAdd, oSub, oMul, oDiv, oRem, oNeg, oAnd, oOr, oShl, oI2c, oI2l, oL2i, oLand, oLor, oLshl, oLshr, oLushr, oLcmp, oDup, oDup2, oPop, oGo, oFg, oEq, oNe, oLt, oGe, oGt, oLe, oEq0, oNe0, oLt0, oGe0, oGt0, oLe0, oSw, oGi, oGr, oPi, oPz, oPr, oLen, oIl, oZl, oCl, oRl, oIst, oZst, oCst, oRst, oCopy, oNew, oNa, oNa2, oObj, oCs, oCv, oCi, oIr, oZr, oVr, Nat.beq, List.getElem?_cons_zero, List.getElem?_cons_succ, List.set_cons_zero, List.set_cons_succ, List.length_cons, List.length_nil, List.nil_append, List.cons_append, List.append_nil, List.replicate_succ, List.replicate_zero, Nat.reduceAdd, Nat.reduceSub, Nat.reduceLT, Nat.reduceLeDiff, Nat.reduceBEq, true_and, and_true, Nat.zero_add, Nat.add_zero, Nat.le_refl, Option.some.injEq, exists_eq_left', true_or, or_true, or_false, false_or, reduceCtorEq, Prod.mk.injEq, Sum.inl.injEq, and_self, false_and, and_false, not_true_eq_false, not_false_eq_true, false_implies, true_implies, sm_r, Int.add_zero, Int.zero_add, wI_wsI, wS_wsI, wR_wsI, wI_wCp, wS_wCp, wR_wCp, Nat.reduceEqDiff, reduceIte, sT_iff, sT_iffC, wIf_ne, ne_eq, tb_X8_whoIsOn, p_X8_whoIsOn, f_X8_whoIsOn]
  repeat' (first | assumption | with_reducible refine And.intro ?_ ?_ | intro _)
  all_goals first
    | omega
    | rfl
    | (split <;> omega)
    | (have k9 := ih (by omega)
       (repeat' split at k9) <;> first | exact k9 | omega)
    | (congr 1; omega)
    | skip

theorem met_X8_whoIsOn (l : Launch) : sm_Met l yX8_whoIsOn cX8_whoIsOn 4 (some .int) 0 0 0 p_X8_whoIsOn f_X8_whoIsOn := sm_met 1 (Or.inr (Or.inl ⟨rfl, rfl⟩)) (by decide +kernel) (sn_X8_whoIsOn l) ok_X8_whoIsOn
end
section
/-! THE REFERENCE: who can leave, and who goes first -/
/-- where a shuttle is, is somewhere on its way -/
def mSh (w : sm_W) (x : Int) : Prop := (0 ≤ wI w 162 x ∧ wI w 162 x ≤ 100000) ∧ (0 ≤ wI w 161 x ∧ wI w 161 x ≤ 7) ∧ (0 ≤ wI w 160 x ∧ wI w 160 x ≤ 3) ∧
  (wI w 160 x ≤ 1 → (wI w 155 (17 + 5 * x) < wI w 155 (17 + 5 * x + 1) → wI w 155 (17 + 5 * x) ≤ wI w 161 x ∧ wI w 161 x < wI w 155 (17 + 5 * x + 1)) ∧ (wI w 155 (17 + 5 * x + 1) < wI w 155 (17 + 5 * x) → wI w 155 (17 + 5 * x + 1) < wI w 161 x ∧ wI w 161 x ≤ wI w 155 (17 + 5 * x))) ∧
  (wI w 160 x = 2 → (wI w 155 (17 + 5 * x) < wI w 155 (17 + 5 * x + 1) → wI w 155 (17 + 5 * x) ≤ wI w 161 x ∧ wI w 161 x < wI w 155 (17 + 5 * x + 1)) ∧ (wI w 155 (17 + 5 * x + 1) < wI w 155 (17 + 5 * x) → wI w 155 (17 + 5 * x + 1) ≤ wI w 161 x ∧ wI w 161 x < wI w 155 (17 + 5 * x))) ∧
  (wI w 160 x = 3 → wI w 161 x = wI w 155 (17 + 5 * x + 1))
def mDay (w : sm_W) : Prop := mOK w ∧ ∀ x, 0 ≤ x → x < wI w 155 1 → mSh w x
theorem mWay_pm (v : Int → Int) (x : Int) : (mWay v x = 1 ∧ v (17 + 5 * x) < v (17 + 5 * x + 1)) ∨ (mWay v x = -1 ∧ ¬ v (17 + 5 * x) < v (17 + 5 * x + 1)) := by
  unfold mWay
  split
  · next h => exact Or.inl ⟨rfl, h⟩
  · next h => exact Or.inr ⟨rfl, h⟩
/-- the station to which a shuttle on a stretch goes -/
def mTo (w : sm_W) (x : Int) : Int := if wI w 160 x = 2 then (if 0 < mWay (wI w 155) x then wI w 161 x + 1 else wI w 161 x) else -6
def mTk (w : sm_W) (st : Int) (x n : Int) : Int := if (wI w 160 x = 1 ∧ wI w 161 x = st) ∨ (mTo w x = st ∧ mTo w x ≠ wI w 155 (17 + 5 * x + 1)) then n + 1 else n
def mTaken (w : sm_W) (st : Int) : Int → Int := itI (mTk w st) 0
theorem mTaken_le (w : sm_W) (st n : Int) (hn : 0 ≤ n) : 0 ≤ mTaken w st n ∧ mTaken w st n ≤ n := by
  refine itI_ind (fun i r => 0 ≤ r ∧ r ≤ i) n ⟨Int.le_refl _, Int.le_refl _⟩ (fun i r h0 h1 h => ?_) n hn (Int.le_refl _)
  unfold mTk
  split <;> omega
def p_X8_taken : List sm_V → sm_W → Prop
  | [.inr (.inl m), .inl st], w => m = 154 ∧ mDay w
  | _, _ => False
def f_X8_taken : sm_F
  | [.inr (.inl m), .inl st], w => (some (.inl (mTaken w st (wI w 155 1))), w)
  | _, w => (none, w)
def tb_X8_taken : List (Nat × List sm_O) := [(0, [oK 0, oIs 2, oK 0, oIs 3, oFg 4, oGo 4]),
  (4, [oI 3, oA 0, oGr 8 30 0, oK 1, oIl, oGe 107, oA 0, oGr 8 30 7, oI 3, oIl, oK 2, oNe 52, oA 0, oI 3, oCv 8 30 p_X8_way f_X8_way 0 0 2, oLe0 43, oA 0, oGr 8 30 8, oI 3, oIl, oK 1, oAdd, oGo 54]),
  (43, [oA 0, oGr 8 30 8, oI 3, oIl, oGo 54]),
  (52, [oK (-6), oGo 54]),
  (54, [oIs 4, oI 2, oA 0, oGr 8 30 7, oI 3, oIl, oK 1, oNe 77, oA 0, oGr 8 30 8, oI 3, oIl, oI 1, oEq 94, oGo 77]),
  (77, [oI 4, oI 1, oNe 98, oI 4, oA 0, oI 3, oK 1, oCv 8 30 p_X8_of f_X8_of 0 0 3, oEq 98, oGo 94]),
  (94, [oK 1, oGo 99]),
  (98, [oK 0, oGo 99]),
  (99, [oAdd, oIs 2, oInc 3 1, oFg 4, oGo 4]),
  (107, [oI 2, oIr])]
set_option maxRecDepth 100000 in
theorem sb_X8_taken_0 (l : Launch) : sm_SndB l RX8 "taken" cX8_taken 5 1 2 0 [oK 0, oIs 2, oK 0, oIs 3, oFg 4, oGo 4] := sb_cons (sd_iconst (by decide +kernel : decode cX8_taken 0 = .ok (.iconst 0, 1)) ⟨by decide, by decide⟩) (sb_cons (sd_istore_n (by decide +kernel : decode cX8_taken 1 = .ok (.istore_n 2, 1)) rfl) (sb_cons (sd_iconst (by decide +kernel : decode cX8_taken 2 = .ok (.iconst 0, 1)) ⟨by decide, by decide⟩) (sb_cons (sd_istore_n (by decide +kernel : decode cX8_taken 3 = .ok (.istore_n 3, 1)) rfl) (sb_cons (sd_fg) (sb_cons (sd_fall (x := 0)) sb_nil)))))
set_option maxRecDepth 100000 in
theorem sb_X8_taken_4 (l : Launch) : sm_SndB l RX8 "taken" cX8_taken 5 1 2 4 [oI 3, oA 0, oGr 8 30 0, oK 1, oIl, oGe 107, oA 0, oGr 8 30 7, oI 3, oIl, oK 2, oNe 52, oA 0, oI 3, oCv 8 30 p_X8_way f_X8_way 0 0 2, oLe0 43, oA 0, oGr 8 30 8, oI 3, oIl, oK 1, oAdd, oGo 54] := sb_cons (sd_iload_n (by decide +kernel : decode cX8_taken 4 = .ok (.iload_n 3, 1)) rfl) (sb_cons (sd_aload_n (by decide +kernel : decode cX8_taken 5 = .ok (.aload_n 0, 1)) rfl) (sb_cons (sd_getr (k := 0) kl_8 (by decide) rfl wm_673 (by decide +kernel : decode cX8_taken 6 = .ok (.getfield 7, 3))) (sb_cons (sd_iconst (by decide +kernel : decode cX8_taken 9 = .ok (.iconst 1, 1)) ⟨by decide, by decide⟩) (sb_cons (sd_iaload (by decide +kernel : decode cX8_taken 10 = .ok (.iaload, 1))) (sb_cons (sd_ge (by decide +kernel : decode cX8_taken 11 = .ok (.if_icmp .ge 96, 3)) (by decide)) (sb_cons (sd_aload_n (by decide +kernel : decode cX8_taken 14 = .ok (.aload_n 0, 1)) rfl) (sb_cons (sd_getr (k := 7) kl_8 (by decide) rfl wm_680 (by decide +kernel : decode cX8_taken 15 = .ok (.getfield 26, 3))) (sb_cons (sd_iload_n (by decide +kernel : decode cX8_taken 18 = .ok (.iload_n 3, 1)) rfl) (sb_cons (sd_iaload (by decide +kernel : decode cX8_taken 19 = .ok (.iaload, 1))) (sb_cons (sd_iconst (by decide +kernel : decode cX8_taken 20 = .ok (.iconst 2, 1)) ⟨by decide, by decide⟩) (sb_cons (sd_ne (by decide +kernel : decode cX8_taken 21 = .ok (.if_icmp .ne 31, 3)) (by decide)) (sb_cons (sd_aload_n (by decide +kernel : decode cX8_taken 24 = .ok (.aload_n 0, 1)) rfl) (sb_cons (sd_iload_n (by decide +kernel : decode cX8_taken 25 = .ok (.iload_n 3, 1)) rfl) (sb_cons (sd_callv (n := 1) (met_X8_way l) (by decide) (by decide) wm_821 wm_819 wm_10 ⟨by decide +kernel, by decide +kernel, by decide +kernel⟩ kl_8 wm_820 wm_1120 (by decide +kernel : decode cX8_taken 26 = .ok (.invokevirtual 95, 3))) (sb_cons (sd_le0 (by decide +kernel : decode cX8_taken 29 = .ok (.ifCond .le 14, 3)) (by decide)) (sb_cons (sd_aload_n (by decide +kernel : decode cX8_taken 32 = .ok (.aload_n 0, 1)) rfl) (sb_cons (sd_getr (k := 8) kl_8 (by decide) rfl wm_681 (by decide +kernel : decode cX8_taken 33 = .ok (.getfield 29, 3))) (sb_cons (sd_iload_n (by decide +kernel : decode cX8_taken 36 = .ok (.iload_n 3, 1)) rfl) (sb_cons (sd_iaload (by decide +kernel : decode cX8_taken 37 = .ok (.iaload, 1))) (sb_cons (sd_iconst (by decide +kernel : decode cX8_taken 38 = .ok (.iconst 1, 1)) ⟨by decide, by decide⟩) (sb_cons (sd_iadd (by decide +kernel : decode cX8_taken 39 = .ok (.iadd, 1))) (sb_cons (sd_goto (x := 0) (by decide +kernel : decode cX8_taken 40 = .ok (.goto 14, 3)) (by decide)) sb_nil))))))))))))))))))))))
set_option maxRecDepth 100000 in
theorem sb_X8_taken_43 (l : Launch) : sm_SndB l RX8 "taken" cX8_taken 5 1 2 43 [oA 0, oGr 8 30 8, oI 3, oIl, oGo 54] := sb_cons (sd_aload_n (by decide +kernel : decode cX8_taken 43 = .ok (.aload_n 0, 1)) rfl) (sb_cons (sd_getr (k := 8) kl_8 (by decide) rfl wm_681 (by decide +kernel : decode cX8_taken 44 = .ok (.getfield 29, 3))) (sb_cons (sd_iload_n (by decide +kernel : decode cX8_taken 47 = .ok (.iload_n 3, 1)) rfl) (sb_cons (sd_iaload (by decide +kernel : decode cX8_taken 48 = .ok (.iaload, 1))) (sb_cons (sd_goto (x := 0) (by decide +kernel : decode cX8_taken 49 = .ok (.goto 5, 3)) (by decide)) sb_nil))))
set_option maxRecDepth 100000 in
theorem sb_X8_taken_52 (l : Launch) : sm_SndB l RX8 "taken" cX8_taken 5 1 2 52 [oK (-6), oGo 54] := sb_cons (sd_bipush (by decide +kernel : decode cX8_taken 52 = .ok (.bipush (-6), 2)) ⟨by decide, by decide⟩ (by decide)) (sb_cons (sd_fall (x := 0)) sb_nil)
set_option maxRecDepth 100000 in
theorem sb_X8_taken_54 (l : Launch) : sm_SndB l RX8 "taken" cX8_taken 5 1 2 54 [oIs 4, oI 2, oA 0, oGr 8 30 7, oI 3, oIl, oK 1, oNe 77, oA 0, oGr 8 30 8, oI 3, oIl, oI 1, oEq 94, oGo 77] := sb_cons (sd_istore (by decide +kernel : decode cX8_taken 54 = .ok (.istore 4, 2))) (sb_cons (sd_iload_n (by decide +kernel : decode cX8_taken 56 = .ok (.iload_n 2, 1)) rfl) (sb_cons (sd_aload_n (by decide +kernel : decode cX8_taken 57 = .ok (.aload_n 0, 1)) rfl) (sb_cons (sd_getr (k := 7) kl_8 (by decide) rfl wm_680 (by decide +kernel : decode cX8_taken 58 = .ok (.getfield 26, 3))) (sb_cons (sd_iload_n (by decide +kernel : decode cX8_taken 61 = .ok (.iload_n 3, 1)) rfl) (sb_cons (sd_iaload (by decide +kernel : decode cX8_taken 62 = .ok (.iaload, 1))) (sb_cons (sd_iconst (by decide +kernel : decode cX8_taken 63 = .ok (.iconst 1, 1)) ⟨by decide, by decide⟩) (sb_cons (sd_ne (by decide +kernel : decode cX8_taken 64 = .ok (.if_icmp .ne 13, 3)) (by decide)) (sb_cons (sd_aload_n (by decide +kernel : decode cX8_taken 67 = .ok (.aload_n 0, 1)) rfl) (sb_cons (sd_getr (k := 8) kl_8 (by decide) rfl wm_681 (by decide +kernel : decode cX8_taken 68 = .ok (.getfield 29, 3))) (sb_cons (sd_iload_n (by decide +kernel : decode cX8_taken 71 = .ok (.iload_n 3, 1)) rfl) (sb_cons (sd_iaload (by decide +kernel : decode cX8_taken 72 = .ok (.iaload, 1))) (sb_cons (sd_iload_n (by decide +kernel : decode cX8_taken 73 = .ok (.iload_n 1, 1)) rfl) (sb_cons (sd_eq (by decide +kernel : decode cX8_taken 74 = .ok (.if_icmp .eq 20, 3)) (by decide)) (sb_cons (sd_fall (x := 0)) sb_nil))))))))))))))
set_option maxRecDepth 100000 in
theorem sb_X8_taken_77 (l : Launch) : sm_SndB l RX8 "taken" cX8_taken 5 1 2 77 [oI 4, oI 1, oNe 98, oI 4, oA 0, oI 3, oK 1, oCv 8 30 p_X8_of f_X8_of 0 0 3, oEq 98, oGo 94] := sb_cons (sd_iload (by decide +kernel : decode cX8_taken 77 = .ok (.iload 4, 2))) (sb_cons (sd_iload_n (by decide +kernel : decode cX8_taken 79 = .ok (.iload_n 1, 1)) rfl) (sb_cons (sd_ne (by decide +kernel : decode cX8_taken 80 = .ok (.if_icmp .ne 18, 3)) (by decide)) (sb_cons (sd_iload (by decide +kernel : decode cX8_taken 83 = .ok (.iload 4, 2))) (sb_cons (sd_aload_n (by decide +kernel : decode cX8_taken 85 = .ok (.aload_n 0, 1)) rfl) (sb_cons (sd_iload_n (by decide +kernel : decode cX8_taken 86 = .ok (.iload_n 3, 1)) rfl) (sb_cons (sd_iconst (by decide +kernel : decode cX8_taken 87 = .ok (.iconst 1, 1)) ⟨by decide, by decide⟩) (sb_cons (sd_callv (n := 2) (met_X8_of l) (by decide) (by decide) wm_778 wm_776 wm_10 ⟨by decide +kernel, by decide +kernel, by decide +kernel⟩ kl_8 wm_777 wm_1113 (by decide +kernel : decode cX8_taken 88 = .ok (.invokevirtual 78, 3))) (sb_cons (sd_eq (by decide +kernel : decode cX8_taken 91 = .ok (.if_icmp .eq 7, 3)) (by decide)) (sb_cons (sd_fall (x := 0)) sb_nil)))))))))
set_option maxRecDepth 100000 in
theorem sb_X8_taken_94 (l : Launch) : sm_SndB l RX8 "taken" cX8_taken 5 1 2 94 [oK 1, oGo 99] := sb_cons (sd_iconst (by decide +kernel : decode cX8_taken 94 = .ok (.iconst 1, 1)) ⟨by decide, by decide⟩) (sb_cons (sd_goto (x := 0) (by decide +kernel : decode cX8_taken 95 = .ok (.goto 4, 3)) (by decide)) sb_nil)
set_option maxRecDepth 100000 in
theorem sb_X8_taken_98 (l : Launch) : sm_SndB l RX8 "taken" cX8_taken 5 1 2 98 [oK 0, oGo 99] := sb_cons (sd_iconst (by decide +kernel : decode cX8_taken 98 = .ok (.iconst 0, 1)) ⟨by decide, by decide⟩) (sb_cons (sd_fall (x := 0)) sb_nil)
set_option maxRecDepth 100000 in
theorem sb_X8_taken_99 (l : Launch) : sm_SndB l RX8 "taken" cX8_taken 5 1 2 99 [oAdd, oIs 2, oInc 3 1, oFg 4, oGo 4] := sb_cons (sd_iadd (by decide +kernel : decode cX8_taken 99 = .ok (.iadd, 1))) (sb_cons (sd_istore_n (by decide +kernel : decode cX8_taken 100 = .ok (.istore_n 2, 1)) rfl) (sb_cons (sd_iinc (by decide +kernel : decode cX8_taken 101 = .ok (.iinc 3 1, 3))) (sb_cons (sd_fg) (sb_cons (sd_goto (x := 0) (by decide +kernel : decode cX8_taken 104 = .ok (.goto (-100), 3)) (by decide)) sb_nil))))
set_option maxRecDepth 100000 in
theorem sb_X8_taken_107 (l : Launch) : sm_SndB l RX8 "taken" cX8_taken 5 1 2 107 [oI 2, oIr] := sb_cons (sd_iload_n (by decide +kernel : decode cX8_taken 107 = .ok (.iload_n 2, 1)) rfl) (sb_cons (sd_ireturn (x := 0) rfl (by decide +kernel : decode cX8_taken 108 = .ok (.ireturn, 1))) sb_nil)
theorem sn_X8_taken (l : Launch) : sm_SndT l RX8 "taken" cX8_taken 5 1 2 tb_X8_taken := st_cons (sb_X8_taken_0 l) (st_cons (sb_X8_taken_4 l) (st_cons (sb_X8_taken_43 l) (st_cons (sb_X8_taken_52 l) (st_cons (sb_X8_taken_54 l) (st_cons (sb_X8_taken_77 l) (st_cons (sb_X8_taken_94 l) (st_cons (sb_X8_taken_98 l) (st_cons (sb_X8_taken_99 l) (st_cons (sb_X8_taken_107 l) (st_nil))))))))))
set_option maxRecDepth 100000 in
set_option maxHeartbeats 4000000 in
theorem ok_X8_taken : sm_Ok tb_X8_taken 5 0 0 p_X8_taken f_X8_taken := by
  intro as w hp ha hw
  match as, hp with
  | [.inr (.inl m), .inl st], hp =>
  refine ⟨Nat.le_of_ble_eq_true rfl, fun Z hZ => ?_⟩
  obtain ⟨rfl, ⟨hT, hv⟩, hd⟩ := hp
  have hm := vOK_many hv
  have hl := sm_loopI Z 4 0 (wI w 155 1) (fun i => [some (.inr (.inl 154)), some (.inl st), some (.inl (mTaken w st i)), some (.inl i), none]) (fun _ => w) 0 0 hm.1 (fun i h0 h1 ih => by
  have hx := fun hlt => hd i h0 hlt
  have hb := mTaken_le w st i h0
  have hu : mTaken w st (i + 1) = mTk w st i (mTaken w st i) := itI_s _ _ h0
  rw [hu] at ih
  unfold mTk mTo at ih
  have hwp := mWay_pm (wI w 155) i
  simp only [mSh] at hx
  refine hZ (fun u => Nat.beq u 4) 40 4 _ _ _ _ _ ?_
  simp only [sm_run, sm_blk, sm_get, sm_ent, sm_ents, sm_wds, sm_wd, sm_nl, sm_pop, sm_back, sm_cases, oK, oLK, oL, oI, oA, oJ, oIs, oAs, oJs, oInc, oAdd, oSub, oMul, oDiv, oRem, oNeg, oAnd, oOr, oShl, oI2c, oI2l, oL2i, oLand, oLor, oLshl, oLshr, oLushr, oLcmp, oDup, oDup2, oPop, oGo, oFg, oEq, oNe, oLt, oGe, oGt, oLe, oEq0, oNe0, oLt0, oGe0, oGt0, oLe0, oSw, oGi, oGr, oPi, oPz, oPr, oLen, oIl, oZl, oCl, oRl, oIst, oZst, oCst, oRst, oCopy, oNew, oNa, oNa2, oObj, oCs, oCv, oCi, oIr, oZr, oVr, Nat.beq, List.getElem?_cons_zero, List.getElem?_cons_succ, List.set_cons_zero, List.set_cons_succ, List.length_cons, List.length_nil, List.nil_append, List.cons_append, List.append_nil, List.replicate_succ, List.replicate_zero, Nat.reduceAdd, Nat.reduceSub, Nat.reduceLT, Nat.reduceLeDiff, Nat.reduceBEq, true_and, and_true, Nat.zero_add, Nat.add_zero, Nat.le_refl, Option.some.injEq, exists_eq_left', true_or, or_true, or_false, false_or, reduceCtorEq, Prod.mk.injEq, Sum.inl.injEq, and_self, false_and, and_false, not_true_eq_false, not_false_eq_true, false_implies, true_implies, sm_r, Int.add_zero, Int.zero_add, wI_wsI, wS_wsI, wR_wsI, wI_wCp, wS_wCp, wR_wCp, Nat.reduceEqDiff, reduceIte, sT_iff, sT_iffC, wIf_ne, ne_eq, tb_X8_taken, p_X8_of, p_X8_way, f_X8_of, f_X8_way, p_X8_taken, f_X8_taken, sS_154 hT, sR_154_0 hT, sS_155 hT, sR_154_7 hT, sS_160 hT, sR_154_8 hT, sS_161 hT]
  repeat' (first | assumption | with_reducible refine And.intro ?_ ?_ | intro _)
  all_goals first
    | omega
    | rfl
    | (split <;> omega)
    | (have k9 := ih (by omega)
       (repeat' split at k9) <;> first | exact k9 | omega)
    | (congr 1; omega)
    | skip
  )
  refine hZ (fun u => Nat.beq u 4) 40 0 _ _ _ _ _ ?_
  simp only [sm_run, sm_blk, sm_get, sm_ent, sm_ents, sm_wds, sm_wd, sm_nl, sm_pop, sm_back, sm_cases, oK, oLK, oL, oI, oA, oJ, oIs, oAs, oJs, oInc, oAdd, oSub, oMul, oDiv, oRem, oNeg, oAnd, oOr, oShl, oI2c, oI2l, oL2i, oLand, oLor, oLshl, oLshr, oLushr, oLcmp, oDup, oDup2, oPop, oGo, oFg, oEq, oNe, oLt, oGe, oGt, oLe, oEq0, oNe0, oLt0, oGe0, oGt0, oLe0, oSw, oGi, oGr, oPi, oPz, oPr, oLen, oIl, oZl, oCl, oRl, oIst, oZst, oCst, oRst, oCopy, oNew, oNa, oNa2, oObj, oCs, oCv, oCi, oIr, oZr, oVr, Nat.beq, List.getElem?_cons_zero, List.getElem?_cons_succ, List.set_cons_zero, List.set_cons_succ, List.length_cons, List.length_nil, List.nil_append, List.cons_append, List.append_nil, List.replicate_succ, List.replicate_zero, Nat.reduceAdd, Nat.reduceSub, Nat.reduceLT, Nat.reduceLeDiff, Nat.reduceBEq, true_and, and_true, Nat.zero_add, Nat.add_zero, Nat.le_refl, Option.some.injEq, exists_eq_left', true_or, or_true, or_false, false_or, reduceCtorEq, Prod.mk.injEq, Sum.inl.injEq, and_self, false_and, and_false, not_true_eq_false, not_false_eq_true, false_implies, true_implies, sm_r, Int.add_zero, Int.zero_add, wI_wsI, wS_wsI, wR_wsI, wI_wCp, wS_wCp, wR_wCp, Nat.reduceEqDiff, reduceIte, sT_iff, sT_iffC, wIf_ne, ne_eq, tb_X8_taken, p_X8_of, p_X8_way, f_X8_of, f_X8_way, p_X8_taken, f_X8_taken]
  repeat' (first | assumption | with_reducible refine And.intro ?_ ?_ | intro _)
  all_goals first
    | omega
    | rfl
    | (split <;> omega)
    | (have k9 := ih (by omega)
       (repeat' split at k9) <;> first | exact k9 | omega)
    | (congr 1; omega)
    | skip
theorem met_X8_taken (l : Launch) : sm_Met l yX8_taken cX8_taken 5 (some .int) 2 0 0 p_X8_taken f_X8_taken := sm_met 1 (Or.inr (Or.inl ⟨rfl, rfl⟩)) (by decide +kernel) (sn_X8_taken l) ok_X8_taken
def mCan (w : sm_W) (x t : Int) : Int := if wI w 160 x ≤ 1 ∧ mReady w x ≤ t then (if mWho w (sFrom (wI w 161 x) (mWay (wI w 155) x)) (wI w 155 1) < 0 then (if wI w 161 x + mWay (wI w 155) x = wI w 155 (17 + 5 * x + 1) then 1 else (if mTaken w (wI w 161 x + mWay (wI w 155) x) (wI w 155 1) < wI w 155 (2 + (wI w 161 x + mWay (wI w 155) x)) then 1 else 0)) else 0) else 0
theorem mCan_pre {w : sm_W} {x t : Int} (h : mCan w x t = 1) : wI w 160 x ≤ 1 ∧ mReady w x ≤ t := by
  unfold mCan at h
  split at h
  · assumption
  · omega
def p_X8_canLeave : List sm_V → sm_W → Prop
  | [.inr (.inl m), .inl x, .inl t], w => m = 154 ∧ mDay w ∧ 0 ≤ x ∧ x < wI w 155 1
  | _, _ => False
def f_X8_canLeave : sm_F
  | [.inr (.inl m), .inl x, .inl t], w => (some (.inl (mCan w x t)), w)
  | _, w => (none, w)
def tb_X8_canLeave : List (Nat × List sm_O) := [(0, [oA 0, oI 1, oI 2, oCv 8 30 p_X8_isReady f_X8_isReady 0 0 3, oNe0 11, oK 0, oZr]),
  (11, [oA 0, oGr 8 30 8, oI 1, oIl, oA 0, oI 1, oCv 8 30 p_X8_way f_X8_way 0 0 2, oAdd, oIs 3, oA 0, oA 0, oGr 8 30 8, oI 1, oIl, oA 0, oI 1, oCv 8 30 p_X8_way f_X8_way 0 0 2, oCs p_X8_stretchFrom f_X8_stretchFrom 0 0 2, oCv 8 30 p_X8_whoIsOn f_X8_whoIsOn 0 0 2, oGe0 75, oI 3, oA 0, oI 1, oK 1, oCv 8 30 p_X8_of f_X8_of 0 0 3, oEq 71, oA 0, oI 3, oCv 8 30 p_X8_taken f_X8_taken 0 0 2, oA 0, oGr 8 30 0, oK 2, oI 3, oAdd, oIl, oGe 75, oGo 71]),
  (71, [oK 1, oGo 76]),
  (75, [oK 0, oGo 76]),
  (76, [oZr])]
set_option maxRecDepth 100000 in
theorem sb_X8_canLeave_0 (l : Launch) : sm_SndB l RX8 "canLeave" cX8_canLeave 4 2 3 0 [oA 0, oI 1, oI 2, oCv 8 30 p_X8_isReady f_X8_isReady 0 0 3, oNe0 11, oK 0, oZr] := sb_cons (sd_aload_n (by decide +kernel : decode cX8_canLeave 0 = .ok (.aload_n 0, 1)) rfl) (sb_cons (sd_iload_n (by decide +kernel : decode cX8_canLeave 1 = .ok (.iload_n 1, 1)) rfl) (sb_cons (sd_iload_n (by decide +kernel : decode cX8_canLeave 2 = .ok (.iload_n 2, 1)) rfl) (sb_cons (sd_callv (n := 2) (met_X8_isReady l) (by decide) (by decide) wm_841 wm_839 wm_10 ⟨by decide +kernel, by decide +kernel, by decide +kernel⟩ kl_8 wm_840 wm_1125 (by decide +kernel : decode cX8_canLeave 3 = .ok (.invokevirtual 102, 3))) (sb_cons (sd_ne0 (by decide +kernel : decode cX8_canLeave 6 = .ok (.ifCond .ne 5, 3)) (by decide)) (sb_cons (sd_iconst (by decide +kernel : decode cX8_canLeave 9 = .ok (.iconst 0, 1)) ⟨by decide, by decide⟩) (sb_cons (sd_zreturn (x := 0) rfl (by decide +kernel : decode cX8_canLeave 10 = .ok (.ireturn, 1))) sb_nil))))))
set_option maxRecDepth 100000 in
theorem sb_X8_canLeave_11 (l : Launch) : sm_SndB l RX8 "canLeave" cX8_canLeave 4 2 3 11 [oA 0, oGr 8 30 8, oI 1, oIl, oA 0, oI 1, oCv 8 30 p_X8_way f_X8_way 0 0 2, oAdd, oIs 3, oA 0, oA 0, oGr 8 30 8, oI 1, oIl, oA 0, oI 1, oCv 8 30 p_X8_way f_X8_way 0 0 2, oCs p_X8_stretchFrom f_X8_stretchFrom 0 0 2, oCv 8 30 p_X8_whoIsOn f_X8_whoIsOn 0 0 2, oGe0 75, oI 3, oA 0, oI 1, oK 1, oCv 8 30 p_X8_of f_X8_of 0 0 3, oEq 71, oA 0, oI 3, oCv 8 30 p_X8_taken f_X8_taken 0 0 2, oA 0, oGr 8 30 0, oK 2, oI 3, oAdd, oIl, oGe 75, oGo 71] := sb_cons (sd_aload_n (by decide +kernel : decode cX8_canLeave 11 = .ok (.aload_n 0, 1)) rfl) (sb_cons (sd_getr (k := 8) kl_8 (by decide) rfl wm_681 (by decide +kernel : decode cX8_canLeave 12 = .ok (.getfield 29, 3))) (sb_cons (sd_iload_n (by decide +kernel : decode cX8_canLeave 15 = .ok (.iload_n 1, 1)) rfl) (sb_cons (sd_iaload (by decide +kernel : decode cX8_canLeave 16 = .ok (.iaload, 1))) (sb_cons (sd_aload_n (by decide +kernel : decode cX8_canLeave 17 = .ok (.aload_n 0, 1)) rfl) (sb_cons (sd_iload_n (by decide +kernel : decode cX8_canLeave 18 = .ok (.iload_n 1, 1)) rfl) (sb_cons (sd_callv (n := 1) (met_X8_way l) (by decide) (by decide) wm_821 wm_819 wm_10 ⟨by decide +kernel, by decide +kernel, by decide +kernel⟩ kl_8 wm_820 wm_1120 (by decide +kernel : decode cX8_canLeave 19 = .ok (.invokevirtual 95, 3))) (sb_cons (sd_iadd (by decide +kernel : decode cX8_canLeave 22 = .ok (.iadd, 1))) (sb_cons (sd_istore_n (by decide +kernel : decode cX8_canLeave 23 = .ok (.istore_n 3, 1)) rfl) (sb_cons (sd_aload_n (by decide +kernel : decode cX8_canLeave 24 = .ok (.aload_n 0, 1)) rfl) (sb_cons (sd_aload_n (by decide +kernel : decode cX8_canLeave 25 = .ok (.aload_n 0, 1)) rfl) (sb_cons (sd_getr (k := 8) kl_8 (by decide) rfl wm_681 (by decide +kernel : decode cX8_canLeave 26 = .ok (.getfield 29, 3))) (sb_cons (sd_iload_n (by decide +kernel : decode cX8_canLeave 29 = .ok (.iload_n 1, 1)) rfl) (sb_cons (sd_iaload (by decide +kernel : decode cX8_canLeave 30 = .ok (.iaload, 1))) (sb_cons (sd_aload_n (by decide +kernel : decode cX8_canLeave 31 = .ok (.aload_n 0, 1)) rfl) (sb_cons (sd_iload_n (by decide +kernel : decode cX8_canLeave 32 = .ok (.iload_n 1, 1)) rfl) (sb_cons (sd_callv (n := 1) (met_X8_way l) (by decide) (by decide) wm_821 wm_819 wm_10 ⟨by decide +kernel, by decide +kernel, by decide +kernel⟩ kl_8 wm_820 wm_1120 (by decide +kernel : decode cX8_canLeave 33 = .ok (.invokevirtual 95, 3))) (sb_cons (sd_calls (n := 2) (met_X8_stretchFrom l) (by decide) (by decide) wm_849 wm_847 wm_10 ⟨by decide +kernel, by decide +kernel, by decide +kernel⟩ wm_848 (by decide +kernel : decode cX8_canLeave 36 = .ok (.invokestatic 106, 3))) (sb_cons (sd_callv (n := 1) (met_X8_whoIsOn l) (by decide) (by decide) wm_853 wm_851 wm_10 ⟨by decide +kernel, by decide +kernel, by decide +kernel⟩ kl_8 wm_852 wm_1127 (by decide +kernel : decode cX8_canLeave 39 = .ok (.invokevirtual 109, 3))) (sb_cons (sd_ge0 (by decide +kernel : decode cX8_canLeave 42 = .ok (.ifCond .ge 33, 3)) (by decide)) (sb_cons (sd_iload_n (by decide +kernel : decode cX8_canLeave 45 = .ok (.iload_n 3, 1)) rfl) (sb_cons (sd_aload_n (by decide +kernel : decode cX8_canLeave 46 = .ok (.aload_n 0, 1)) rfl) (sb_cons (sd_iload_n (by decide +kernel : decode cX8_canLeave 47 = .ok (.iload_n 1, 1)) rfl) (sb_cons (sd_iconst (by decide +kernel : decode cX8_canLeave 48 = .ok (.iconst 1, 1)) ⟨by decide, by decide⟩) (sb_cons (sd_callv (n := 2) (met_X8_of l) (by decide) (by decide) wm_778 wm_776 wm_10 ⟨by decide +kernel, by decide +kernel, by decide +kernel⟩ kl_8 wm_777 wm_1113 (by decide +kernel : decode cX8_canLeave 49 = .ok (.invokevirtual 78, 3))) (sb_cons (sd_eq (by decide +kernel : decode cX8_canLeave 52 = .ok (.if_icmp .eq 19, 3)) (by decide)) (sb_cons (sd_aload_n (by decide +kernel : decode cX8_canLeave 55 = .ok (.aload_n 0, 1)) rfl) (sb_cons (sd_iload_n (by decide +kernel : decode cX8_canLeave 56 = .ok (.iload_n 3, 1)) rfl) (sb_cons (sd_callv (n := 1) (met_X8_taken l) (by decide) (by decide) wm_857 wm_855 wm_10 ⟨by decide +kernel, by decide +kernel, by decide +kernel⟩ kl_8 wm_856 wm_1128 (by decide +kernel : decode cX8_canLeave 57 = .ok (.invokevirtual 112, 3))) (sb_cons (sd_aload_n (by decide +kernel : decode cX8_canLeave 60 = .ok (.aload_n 0, 1)) rfl) (sb_cons (sd_getr (k := 0) kl_8 (by decide) rfl wm_673 (by decide +kernel : decode cX8_canLeave 61 = .ok (.getfield 7, 3))) (sb_cons (sd_iconst (by decide +kernel : decode cX8_canLeave 64 = .ok (.iconst 2, 1)) ⟨by decide, by decide⟩) (sb_cons (sd_iload_n (by decide +kernel : decode cX8_canLeave 65 = .ok (.iload_n 3, 1)) rfl) (sb_cons (sd_iadd (by decide +kernel : decode cX8_canLeave 66 = .ok (.iadd, 1))) (sb_cons (sd_iaload (by decide +kernel : decode cX8_canLeave 67 = .ok (.iaload, 1))) (sb_cons (sd_ge (by decide +kernel : decode cX8_canLeave 68 = .ok (.if_icmp .ge 7, 3)) (by decide)) (sb_cons (sd_fall (x := 0)) sb_nil))))))))))))))))))))))))))))))))))))
set_option maxRecDepth 100000 in
theorem sb_X8_canLeave_71 (l : Launch) : sm_SndB l RX8 "canLeave" cX8_canLeave 4 2 3 71 [oK 1, oGo 76] := sb_cons (sd_iconst (by decide +kernel : decode cX8_canLeave 71 = .ok (.iconst 1, 1)) ⟨by decide, by decide⟩) (sb_cons (sd_goto (x := 0) (by decide +kernel : decode cX8_canLeave 72 = .ok (.goto 4, 3)) (by decide)) sb_nil)
set_option maxRecDepth 100000 in
theorem sb_X8_canLeave_75 (l : Launch) : sm_SndB l RX8 "canLeave" cX8_canLeave 4 2 3 75 [oK 0, oGo 76] := sb_cons (sd_iconst (by decide +kernel : decode cX8_canLeave 75 = .ok (.iconst 0, 1)) ⟨by decide, by decide⟩) (sb_cons (sd_fall (x := 0)) sb_nil)
set_option maxRecDepth 100000 in
theorem sb_X8_canLeave_76 (l : Launch) : sm_SndB l RX8 "canLeave" cX8_canLeave 4 2 3 76 [oZr] := sb_cons (sd_zreturn (x := 0) rfl (by decide +kernel : decode cX8_canLeave 76 = .ok (.ireturn, 1))) sb_nil
theorem sn_X8_canLeave (l : Launch) : sm_SndT l RX8 "canLeave" cX8_canLeave 4 2 3 tb_X8_canLeave := st_cons (sb_X8_canLeave_0 l) (st_cons (sb_X8_canLeave_11 l) (st_cons (sb_X8_canLeave_71 l) (st_cons (sb_X8_canLeave_75 l) (st_cons (sb_X8_canLeave_76 l) (st_nil)))))
set_option maxRecDepth 100000 in
set_option maxHeartbeats 4000000 in
theorem ok_X8_canLeave : sm_Ok tb_X8_canLeave 4 0 0 p_X8_canLeave f_X8_canLeave := by
  intro as w hp ha hw
  match as, hp with
  | [.inr (.inl m), .inl x, .inl t], hp =>
  refine ⟨Nat.le_of_ble_eq_true rfl, fun Z hZ => ?_⟩
  obtain ⟨rfl, ⟨⟨hT, hv⟩, hd⟩, h1, h2⟩ := hp
  have hm := vOK_many hv
  have hx := hd x h1 h2
  simp only [mSh] at hx
  have hwp := mWay_pm (wI w 155) x
  have hq := vOK_sh hv h1 h2
  have hD : mDay w := ⟨⟨hT, hv⟩, hd⟩
  have hO : mOK w := ⟨hT, hv⟩
  refine hZ (fun _ => false) 40 0 _ _ _ _ _ ?_
  simp only [sm_run, sm_blk, sm_get, sm_ent, sm_ents, sm_wds, sm_wd, sm_nl, sm_pop, sm_back, sm_cases, oK, oLK, oL, oI, oA, oJ, oIs, oAs, oJs, oInc, oAdd, oSub, oMul, oDiv, oRem, oNeg, oAnd, oOr, oShl, oI2c, oI2l, oL2i, oLand, oLor, oLshl, oLshr, oLushr, oLcmp, oDup, oDup2, oPop, oGo, oFg, oEq, oNe, oLt, oGe, oGt, oLe, oEq0, oNe0, oLt0, oGe0, oGt0, oLe0, oSw, oGi, oGr, oPi, oPz, oPr, oLen, oIl, oZl, oCl, oRl, oIst, oZst, oCst, oRst, oCopy, oNew, oNa, oNa2, oObj, oCs, oCv, oCi, oIr, oZr, oVr, Nat.beq, List.getElem?_cons_zero, List.getElem?_cons_succ, List.set_cons_zero, List.set_cons_succ, List.length_cons, List.length_nil, List.nil_append, List.cons_append, List.append_nil, List.replicate_succ, List.replicate_zero, Nat.reduceAdd, Nat.reduceSub, Nat.reduceLT, Nat.reduceLeDiff, Nat.reduceBEq, true_and, and_true, Nat.zero_add, Nat.add_zero, Nat.le_refl, Option.some.injEq, exists_eq_left', true_or, or_true, or_false, false_or, reduceCtorEq, Prod.mk.injEq, Sum.inl.injEq, and_self, false_and, and_false, not_true_eq_false, not_false_eq_true, false_implies, true_implies, sm_r, Int.add_zero, Int.zero_add, wI_wsI, wS_wsI, wR_wsI, wI_wCp, wS_wCp, wR_wCp, Nat.reduceEqDiff, reduceIte, sT_iff, sT_iffC, wIf_ne, ne_eq, tb_X8_canLeave, p_X8_isReady, p_X8_of, p_X8_stretchFrom, p_X8_taken, p_X8_way, p_X8_whoIsOn, f_X8_isReady, f_X8_of, f_X8_stretchFrom, f_X8_taken, f_X8_way, f_X8_whoIsOn, p_X8_canLeave, f_X8_canLeave, sS_154 hT, sR_154_0 hT, sS_155 hT, sR_154_7 hT, sS_160 hT, sR_154_8 hT, sS_161 hT]
  repeat' (first | assumption | with_reducible refine And.intro ?_ ?_ | intro _)
  all_goals first
    | omega
    | rfl
    | (split <;> omega)
    | grind [mCan]
    | skip
theorem met_X8_canLeave (l : Launch) : sm_Met l yX8_canLeave cX8_canLeave 4 (some .boolean) 3 0 0 p_X8_canLeave f_X8_canLeave := sm_met 2 (Or.inr (Or.inr ⟨rfl, rfl⟩)) (by decide +kernel) (sn_X8_canLeave l) ok_X8_canLeave
/-- the running times from a station a on over n stretches, and the stops between -/
def rsum (v : Int → Int) (a n : Int) : Int := itI (fun i r => r + v (10 + (a + i))) 0 n
theorem rsum_s (v : Int → Int) (a : Int) {n : Int} (h : 0 ≤ n) : rsum v a (n + 1) = rsum v a n + v (10 + (a + n)) := itI_s _ _ h
theorem rsum_p (v : Int → Int) (a : Int) {n : Int} (h : 0 ≤ n) : rsum v (a - 1) (n + 1) = rsum v a n + v (10 + (a - 1)) := by
  obtain ⟨k, rfl⟩ : ∃ k : Nat, n = k := ⟨n.toNat, by omega⟩
  induction k with
  | zero =>
    rw [rsum_s v (a - 1) (by omega)]
    show (0 : Int) + v (10 + (a - 1 + 0)) = 0 + v (10 + (a - 1))
    rw [Int.add_zero]
  | succ k ih =>
    have h1 := rsum_s v (a - 1) (n := ((k + 1 : Nat) : Int)) (by omega)
    have h2 := rsum_s v a (n := (k : Int)) (by omega)
    have h3 := ih (by omega)
    have e : ((k + 1 : Nat) : Int) = (k : Int) + 1 := by omega
    rw [e] at h1 ⊢
    rw [h1, h3, h2, show a - 1 + ((k : Int) + 1) = a + k by omega]
    omega
theorem rsum_b {v : Int → Int} (hv : vOK v) {a n : Int} (ha : 0 ≤ a) (hn : 0 ≤ n) (h : a + n ≤ 7) : 0 ≤ rsum v a n ∧ rsum v a n ≤ 30 * n := by
  refine itI_ind (fun i r => 0 ≤ r ∧ r ≤ 30 * i) n ⟨Int.le_refl _, Int.le_refl _⟩ (fun i r h0 h1 hr => ?_) n hn (Int.le_refl _)
  have := vOK_ru hv (k := a + i) (by omega) (by omega)
  omega
def wT (v : Int → Int) (sp a b : Int) : Int := rsum v a (b - a) + (if a < b then b - a - 1 else 0) * sp
theorem wT_0 (v : Int → Int) (sp a : Int) : wT v sp a a = 0 := by
  unfold wT
  rw [Int.sub_self, if_neg (Int.lt_irrefl _), Int.zero_mul]
  rfl
theorem wT_up (v : Int → Int) (sp : Int) {a b : Int} (h : a ≤ b) : wT v sp a (b + 1) = wT v sp a b + v (10 + b) + (if b = a then 0 else sp) := by
  unfold wT
  rw [show b + 1 - a = (b - a) + 1 by omega, rsum_s v a (by omega), show a + (b - a) = b by omega, if_pos (by omega)]
  by_cases e : b = a
  · subst e
    rw [if_neg (by omega), if_pos rfl, show b - b + 1 - 1 = 0 by omega, Int.zero_mul]
    omega
  · rw [if_pos (by omega), if_neg e, show b - a + 1 - 1 = (b - a - 1) + 1 by omega, Int.add_mul, Int.one_mul]
    omega
theorem wT_dn (v : Int → Int) (sp : Int) {a b : Int} (h : a ≤ b) : wT v sp (a - 1) b = wT v sp a b + v (10 + (a - 1)) + (if a = b then 0 else sp) := by
  unfold wT
  rw [show b - (a - 1) = (b - a) + 1 by omega, rsum_p v a (by omega), if_pos (by omega)]
  by_cases e : a = b
  · subst e
    rw [if_neg (by omega), if_pos rfl, show a - a + 1 - 1 = 0 by omega, Int.zero_mul]
    omega
  · rw [if_pos (by omega), if_neg e, show b - a + 1 - 1 = (b - a - 1) + 1 by omega, Int.add_mul, Int.one_mul]
    omega
theorem mul_b {c sp : Int} (h0 : 0 ≤ c) (h1 : c ≤ 7) (s0 : 0 ≤ sp) (s1 : sp ≤ 20) : 0 ≤ c * sp ∧ c * sp ≤ 140 :=
  ⟨Int.mul_nonneg h0 s0, by have := Int.mul_le_mul h1 s1 s0 (by omega); omega⟩
theorem wT_b {v : Int → Int} (hv : vOK v) {sp a b : Int} (s0 : 0 ≤ sp) (s1 : sp ≤ 20) (ha : 0 ≤ a) (hab : a ≤ b) (hb : b ≤ 7) : 0 ≤ wT v sp a b ∧ wT v sp a b ≤ 400 := by
  unfold wT
  have h1 := rsum_b hv (a := a) (n := b - a) ha (by omega) (by omega)
  have h2 := mul_b (c := if a < b then b - a - 1 else 0) (by split <;> omega) (by split <;> omega) s0 s1
  omega
/-- the time that a shuttle has from a station on -/
def vTime (v : Int → Int) (x fr : Int) : Int := if fr < v (17 + 5 * x + 1) then wT v (v (17 + 5 * x + 3)) fr (v (17 + 5 * x + 1)) else wT v (v (17 + 5 * x + 3)) (v (17 + 5 * x + 1)) fr
theorem vTime_up {v : Int → Int} {x fr : Int} (h : fr ≤ v (17 + 5 * x + 1)) : vTime v x fr = wT v (v (17 + 5 * x + 3)) fr (v (17 + 5 * x + 1)) := by
  unfold vTime
  split
  · rfl
  · rw [show fr = v (17 + 5 * x + 1) by omega]
theorem vTime_dn {v : Int → Int} {x fr : Int} (h : v (17 + 5 * x + 1) ≤ fr) : vTime v x fr = wT v (v (17 + 5 * x + 3)) (v (17 + 5 * x + 1)) fr := by
  unfold vTime
  split
  · omega
  · rfl
theorem sFrom_1 (st : Int) : sFrom st 1 = st := rfl
theorem sFrom_m (st : Int) : sFrom st (-1) = st - 1 := rfl
def p_X8_timeOf : List sm_V → sm_W → Prop
  | [.inr (.inl m), .inl x, .inl fr], w => m = 154 ∧ mOK w ∧ 0 ≤ x ∧ x < wI w 155 1 ∧ 0 ≤ fr ∧ fr ≤ 7 ∧ (wI w 155 (17 + 5 * x) < wI w 155 (17 + 5 * x + 1) → fr ≤ wI w 155 (17 + 5 * x + 1)) ∧ (wI w 155 (17 + 5 * x + 1) < wI w 155 (17 + 5 * x) → wI w 155 (17 + 5 * x + 1) ≤ fr)
  | _, _ => False
def f_X8_timeOf : sm_F
  | [.inr (.inl m), .inl x, .inl fr], w => (some (.inl (vTime (wI w 155) x fr)), w)
  | _, w => (none, w)
def tb_X8_timeOf : List (Nat × List sm_O) := [(0, [oK 0, oIs 3, oI 2, oIs 4, oGo 5]),
  (5, [oI 4, oA 0, oI 1, oK 1, oCv 8 30 p_X8_of f_X8_of 0 0 3, oEq 69, oI 3, oA 0, oGr 8 30 0, oK 10, oI 4, oA 0, oI 1, oCv 8 30 p_X8_way f_X8_way 0 0 2, oCs p_X8_stretchFrom f_X8_stretchFrom 0 0 2, oAdd, oIl, oAdd, oIs 3, oI 3, oI 4, oI 2, oNe 48, oK 0, oGo 54]),
  (48, [oA 0, oI 1, oK 3, oCv 8 30 p_X8_of f_X8_of 0 0 3, oGo 54]),
  (54, [oAdd, oIs 3, oI 4, oA 0, oI 1, oCv 8 30 p_X8_way f_X8_way 0 0 2, oAdd, oIs 4, oGo 5]),
  (69, [oI 3, oIr])]
set_option maxRecDepth 100000 in
theorem sb_X8_timeOf_0 (l : Launch) : sm_SndB l RX8 "timeOf" cX8_timeOf 5 1 2 0 [oK 0, oIs 3, oI 2, oIs 4, oGo 5] := sb_cons (sd_iconst (by decide +kernel : decode cX8_timeOf 0 = .ok (.iconst 0, 1)) ⟨by decide, by decide⟩) (sb_cons (sd_istore_n (by decide +kernel : decode cX8_timeOf 1 = .ok (.istore_n 3, 1)) rfl) (sb_cons (sd_iload_n (by decide +kernel : decode cX8_timeOf 2 = .ok (.iload_n 2, 1)) rfl) (sb_cons (sd_istore (by decide +kernel : decode cX8_timeOf 3 = .ok (.istore 4, 2))) (sb_cons (sd_fall (x := 0)) sb_nil))))
set_option maxRecDepth 100000 in
theorem sb_X8_timeOf_5 (l : Launch) : sm_SndB l RX8 "timeOf" cX8_timeOf 5 1 2 5 [oI 4, oA 0, oI 1, oK 1, oCv 8 30 p_X8_of f_X8_of 0 0 3, oEq 69, oI 3, oA 0, oGr 8 30 0, oK 10, oI 4, oA 0, oI 1, oCv 8 30 p_X8_way f_X8_way 0 0 2, oCs p_X8_stretchFrom f_X8_stretchFrom 0 0 2, oAdd, oIl, oAdd, oIs 3, oI 3, oI 4, oI 2, oNe 48, oK 0, oGo 54] := sb_cons (sd_iload (by decide +kernel : decode cX8_timeOf 5 = .ok (.iload 4, 2))) (sb_cons (sd_aload_n (by decide +kernel : decode cX8_timeOf 7 = .ok (.aload_n 0, 1)) rfl) (sb_cons (sd_iload_n (by decide +kernel : decode cX8_timeOf 8 = .ok (.iload_n 1, 1)) rfl) (sb_cons (sd_iconst (by decide +kernel : decode cX8_timeOf 9 = .ok (.iconst 1, 1)) ⟨by decide, by decide⟩) (sb_cons (sd_callv (n := 2) (met_X8_of l) (by decide) (by decide) wm_778 wm_776 wm_10 ⟨by decide +kernel, by decide +kernel, by decide +kernel⟩ kl_8 wm_777 wm_1113 (by decide +kernel : decode cX8_timeOf 10 = .ok (.invokevirtual 78, 3))) (sb_cons (sd_eq (by decide +kernel : decode cX8_timeOf 13 = .ok (.if_icmp .eq 56, 3)) (by decide)) (sb_cons (sd_iload_n (by decide +kernel : decode cX8_timeOf 16 = .ok (.iload_n 3, 1)) rfl) (sb_cons (sd_aload_n (by decide +kernel : decode cX8_timeOf 17 = .ok (.aload_n 0, 1)) rfl) (sb_cons (sd_getr (k := 0) kl_8 (by decide) rfl wm_673 (by decide +kernel : decode cX8_timeOf 18 = .ok (.getfield 7, 3))) (sb_cons (sd_bipush (by decide +kernel : decode cX8_timeOf 21 = .ok (.bipush 10, 2)) ⟨by decide, by decide⟩ (by decide)) (sb_cons (sd_iload (by decide +kernel : decode cX8_timeOf 23 = .ok (.iload 4, 2))) (sb_cons (sd_aload_n (by decide +kernel : decode cX8_timeOf 25 = .ok (.aload_n 0, 1)) rfl) (sb_cons (sd_iload_n (by decide +kernel : decode cX8_timeOf 26 = .ok (.iload_n 1, 1)) rfl) (sb_cons (sd_callv (n := 1) (met_X8_way l) (by decide) (by decide) wm_821 wm_819 wm_10 ⟨by decide +kernel, by decide +kernel, by decide +kernel⟩ kl_8 wm_820 wm_1120 (by decide +kernel : decode cX8_timeOf 27 = .ok (.invokevirtual 95, 3))) (sb_cons (sd_calls (n := 2) (met_X8_stretchFrom l) (by decide) (by decide) wm_849 wm_847 wm_10 ⟨by decide +kernel, by decide +kernel, by decide +kernel⟩ wm_848 (by decide +kernel : decode cX8_timeOf 30 = .ok (.invokestatic 106, 3))) (sb_cons (sd_iadd (by decide +kernel : decode cX8_timeOf 33 = .ok (.iadd, 1))) (sb_cons (sd_iaload (by decide +kernel : decode cX8_timeOf 34 = .ok (.iaload, 1))) (sb_cons (sd_iadd (by decide +kernel : decode cX8_timeOf 35 = .ok (.iadd, 1))) (sb_cons (sd_istore_n (by decide +kernel : decode cX8_timeOf 36 = .ok (.istore_n 3, 1)) rfl) (sb_cons (sd_iload_n (by decide +kernel : decode cX8_timeOf 37 = .ok (.iload_n 3, 1)) rfl) (sb_cons (sd_iload (by decide +kernel : decode cX8_timeOf 38 = .ok (.iload 4, 2))) (sb_cons (sd_iload_n (by decide +kernel : decode cX8_timeOf 40 = .ok (.iload_n 2, 1)) rfl) (sb_cons (sd_ne (by decide +kernel : decode cX8_timeOf 41 = .ok (.if_icmp .ne 7, 3)) (by decide)) (sb_cons (sd_iconst (by decide +kernel : decode cX8_timeOf 44 = .ok (.iconst 0, 1)) ⟨by decide, by decide⟩) (sb_cons (sd_goto (x := 0) (by decide +kernel : decode cX8_timeOf 45 = .ok (.goto 9, 3)) (by decide)) sb_nil))))))))))))))))))))))))
set_option maxRecDepth 100000 in
theorem sb_X8_timeOf_48 (l : Launch) : sm_SndB l RX8 "timeOf" cX8_timeOf 5 1 2 48 [oA 0, oI 1, oK 3, oCv 8 30 p_X8_of f_X8_of 0 0 3, oGo 54] := sb_cons (sd_aload_n (by decide +kernel : decode cX8_timeOf 48 = .ok (.aload_n 0, 1)) rfl) (sb_cons (sd_iload_n (by decide +kernel : decode cX8_timeOf 49 = .ok (.iload_n 1, 1)) rfl) (sb_cons (sd_iconst (by decide +kernel : decode cX8_timeOf 50 = .ok (.iconst 3, 1)) ⟨by decide, by decide⟩) (sb_cons (sd_callv (n := 2) (met_X8_of l) (by decide) (by decide) wm_778 wm_776 wm_10 ⟨by decide +kernel, by decide +kernel, by decide +kernel⟩ kl_8 wm_777 wm_1113 (by decide +kernel : decode cX8_timeOf 51 = .ok (.invokevirtual 78, 3))) (sb_cons (sd_fall (x := 0)) sb_nil))))
set_option maxRecDepth 100000 in
theorem sb_X8_timeOf_54 (l : Launch) : sm_SndB l RX8 "timeOf" cX8_timeOf 5 1 2 54 [oAdd, oIs 3, oI 4, oA 0, oI 1, oCv 8 30 p_X8_way f_X8_way 0 0 2, oAdd, oIs 4, oGo 5] := sb_cons (sd_iadd (by decide +kernel : decode cX8_timeOf 54 = .ok (.iadd, 1))) (sb_cons (sd_istore_n (by decide +kernel : decode cX8_timeOf 55 = .ok (.istore_n 3, 1)) rfl) (sb_cons (sd_iload (by decide +kernel : decode cX8_timeOf 56 = .ok (.iload 4, 2))) (sb_cons (sd_aload_n (by decide +kernel : decode cX8_timeOf 58 = .ok (.aload_n 0, 1)) rfl) (sb_cons (sd_iload_n (by decide +kernel : decode cX8_timeOf 59 = .ok (.iload_n 1, 1)) rfl) (sb_cons (sd_callv (n := 1) (met_X8_way l) (by decide) (by decide) wm_821 wm_819 wm_10 ⟨by decide +kernel, by decide +kernel, by decide +kernel⟩ kl_8 wm_820 wm_1120 (by decide +kernel : decode cX8_timeOf 60 = .ok (.invokevirtual 95, 3))) (sb_cons (sd_iadd (by decide +kernel : decode cX8_timeOf 63 = .ok (.iadd, 1))) (sb_cons (sd_istore (by decide +kernel : decode cX8_timeOf 64 = .ok (.istore 4, 2))) (sb_cons (sd_goto (x := 0) (by decide +kernel : decode cX8_timeOf 66 = .ok (.goto (-61), 3)) (by decide)) sb_nil))))))))
set_option maxRecDepth 100000 in
theorem sb_X8_timeOf_69 (l : Launch) : sm_SndB l RX8 "timeOf" cX8_timeOf 5 1 2 69 [oI 3, oIr] := sb_cons (sd_iload_n (by decide +kernel : decode cX8_timeOf 69 = .ok (.iload_n 3, 1)) rfl) (sb_cons (sd_ireturn (x := 0) rfl (by decide +kernel : decode cX8_timeOf 70 = .ok (.ireturn, 1))) sb_nil)
theorem sn_X8_timeOf (l : Launch) : sm_SndT l RX8 "timeOf" cX8_timeOf 5 1 2 tb_X8_timeOf := st_cons (sb_X8_timeOf_0 l) (st_cons (sb_X8_timeOf_5 l) (st_cons (sb_X8_timeOf_48 l) (st_cons (sb_X8_timeOf_54 l) (st_cons (sb_X8_timeOf_69 l) (st_nil)))))
set_option maxRecDepth 100000 in
set_option maxHeartbeats 4000000 in
theorem ok_X8_timeOf : sm_Ok tb_X8_timeOf 5 0 0 p_X8_timeOf f_X8_timeOf := by
  intro as w hp ha hw
  match as, hp with
  | [.inr (.inl m), .inl x, .inl fr], hp =>
  refine ⟨Nat.le_of_ble_eq_true rfl, fun Z hZ => ?_⟩
  obtain ⟨rfl, ⟨hT, hv⟩, h1, h2, h3, h4, h5, h6⟩ := hp
  have hm := vOK_many hv
  have hq := vOK_sh hv h1 h2
  rcases mWay_pm (wI w 155) x with ⟨hw1, hw2⟩ | ⟨hw1, hw2⟩
  · have hvt := vTime_up (v := wI w 155) (x := x) (fr := fr) (by omega)
    have hl := sm_loopI Z 5 0 (wI w 155 (17 + 5 * x + 1) - fr) (fun j => [some (.inr (.inl 154)), some (.inl x), some (.inl fr), some (.inl (wT (wI w 155) (wI w 155 (17 + 5 * x + 3)) fr (fr + j))), some (.inl (fr + j))]) (fun _ => w) 0 0 (by omega) (fun j h0 hj ih => by
    have hb := wT_b hv (sp := wI w 155 (17 + 5 * x + 3)) (a := fr) (b := fr + j) (by omega) (by omega) (by omega) (by omega) (by omega)
    have hu := wT_up (wI w 155) (wI w 155 (17 + 5 * x + 3)) (a := fr) (b := fr + j) (by omega)
    have hru := fun hlt => vOK_ru hv (k := fr + j) (by omega) hlt
    rw [← Int.add_assoc, hu] at ih
    refine hZ (fun u => Nat.beq u 5) 40 5 _ _ _ _ _ ?_
    simp only [sm_run, sm_blk, sm_get, sm_ent, sm_ents, sm_wds, sm_wd, sm_nl, sm_pop, sm_back, sm_cases, oK, oLK, oL, oI, oA, oJ, oIs, oAs, oJs, oInc, oAdd, oSub, oMul, oDiv, oRem, oNeg, oAnd, oOr, oShl, oI2c, oI2l, oL2i, oLand, oLor, oLshl, oLshr, oLushr, oLcmp, oDup, oDup2, oPop, oGo, oFg, oEq, oNe, oLt, oGe, oGt, oLe, oEq0, oNe0, oLt0, oGe0, oGt0, oLe0, oSw, oGi, oGr, oPi, oPz, oPr, oLen, oIl, oZl, oCl, oRl, oIst, oZst, oCst, oRst, oCopy, oNew, oNa, oNa2, oObj, oCs, oCv, oCi, oIr, oZr, oVr, Nat.beq, List.getElem?_cons_zero, List.getElem?_cons_succ, List.set_cons_zero, List.set_cons_succ, List.length_cons, List.length_nil, List.nil_append, List.cons_append, List.append_nil, List.replicate_succ, List.replicate_zero, Nat.reduceAdd, Nat.reduceSub, Nat.reduceLT, Nat.reduceLeDiff, Nat.reduceBEq, true_and, and_true, Nat.zero_add, Nat.add_zero, Nat.le_refl, Option.some.injEq, exists_eq_left', true_or, or_true, or_false, false_or, reduceCtorEq, Prod.mk.injEq, Sum.inl.injEq, and_self, false_and, and_false, not_true_eq_false, not_false_eq_true, false_implies, true_implies, sm_r, Int.add_zero, Int.zero_add, wI_wsI, wS_wsI, wR_wsI, wI_wCp, wS_wCp, wR_wCp, Nat.reduceEqDiff, reduceIte, sT_iff, sT_iffC, wIf_ne, ne_eq, tb_X8_timeOf, p_X8_of, p_X8_stretchFrom, p_X8_way, f_X8_of, f_X8_stretchFrom, f_X8_way, p_X8_timeOf, f_X8_timeOf, sS_154 hT, sR_154_0 hT, sS_155 hT, hw1, sFrom_1, hvt]
    repeat' (first | assumption | with_reducible refine And.intro ?_ ?_ | intro _)
    all_goals first
      | omega
      | rfl
      | (split <;> omega)
      | (have k9 := ih (by omega)
         (repeat' split at k9) <;> first | exact k9 | omega)
      | (congr 1; omega)
      | grind
      | skip
    )
    rw [Int.add_zero, wT_0] at hl
    refine hZ (fun u => Nat.beq u 5) 40 0 _ _ _ _ _ ?_
    simp only [sm_run, sm_blk, sm_get, sm_ent, sm_ents, sm_wds, sm_wd, sm_nl, sm_pop, sm_back, sm_cases, oK, oLK, oL, oI, oA, oJ, oIs, oAs, oJs, oInc, oAdd, oSub, oMul, oDiv, oRem, oNeg, oAnd, oOr, oShl, oI2c, oI2l, oL2i, oLand, oLor, oLshl, oLshr, oLushr, oLcmp, oDup, oDup2, oPop, oGo, oFg, oEq, oNe, oLt, oGe, oGt, oLe, oEq0, oNe0, oLt0, oGe0, oGt0, oLe0, oSw, oGi, oGr, oPi, oPz, oPr, oLen, oIl, oZl, oCl, oRl, oIst, oZst, oCst, oRst, oCopy, oNew, oNa, oNa2, oObj, oCs, oCv, oCi, oIr, oZr, oVr, Nat.beq, List.getElem?_cons_zero, List.getElem?_cons_succ, List.set_cons_zero, List.set_cons_succ, List.length_cons, List.length_nil, List.nil_append, List.cons_append, List.append_nil, List.replicate_succ, List.replicate_zero, Nat.reduceAdd, Nat.reduceSub, Nat.reduceLT, Nat.reduceLeDiff, Nat.reduceBEq, true_and, and_true, Nat.zero_add, Nat.add_zero, Nat.le_refl, Option.some.injEq, exists_eq_left', true_or, or_true, or_false, false_or, reduceCtorEq, Prod.mk.injEq, Sum.inl.injEq, and_self, false_and, and_false, not_true_eq_false, not_false_eq_true, false_implies, true_implies, sm_r, Int.add_zero, Int.zero_add, wI_wsI, wS_wsI, wR_wsI, wI_wCp, wS_wCp, wR_wCp, Nat.reduceEqDiff, reduceIte, sT_iff, sT_iffC, wIf_ne, ne_eq, tb_X8_timeOf, p_X8_of, p_X8_stretchFrom, p_X8_way, f_X8_of, f_X8_stretchFrom, f_X8_way, p_X8_timeOf, f_X8_timeOf]
    repeat' (first | assumption | with_reducible refine And.intro ?_ ?_ | intro _)
    all_goals first
      | omega
      | rfl
      | (split <;> omega)
      | (have k9 := ih (by omega)
         (repeat' split at k9) <;> first | exact k9 | omega)
      | (congr 1; omega)
      | skip
  · have hvt := vTime_dn (v := wI w 155) (x := x) (fr := fr) (by omega)
    have hl := sm_loopI Z 5 0 (fr - wI w 155 (17 + 5 * x + 1)) (fun j => [some (.inr (.inl 154)), some (.inl x), some (.inl fr), some (.inl (wT (wI w 155) (wI w 155 (17 + 5 * x + 3)) (fr - j) fr)), some (.inl (fr - j))]) (fun _ => w) 0 0 (by omega) (fun j h0 hj ih => by
    have hb := wT_b hv (sp := wI w 155 (17 + 5 * x + 3)) (a := fr - j) (b := fr) (by omega) (by omega) (by omega) (by omega) (by omega)
    have hu := wT_dn (wI w 155) (wI w 155 (17 + 5 * x + 3)) (a := fr - j) (b := fr) (by omega)
    have hru := fun hlt => vOK_ru hv (k := fr - j - 1) hlt (by omega)
    rw [show fr - (j + 1) = fr - j - 1 by omega, hu] at ih
    refine hZ (fun u => Nat.beq u 5) 40 5 _ _ _ _ _ ?_
    simp only [sm_run, sm_blk, sm_get, sm_ent, sm_ents, sm_wds, sm_wd, sm_nl, sm_pop, sm_back, sm_cases, oK, oLK, oL, oI, oA, oJ, oIs, oAs, oJs, oInc, oAdd, oSub, oMul, oDiv, oRem, oNeg, oAnd, oOr, oShl, oI2c, oI2l, oL2i, oLand, oLor, oLshl, oLshr, oLushr, oLcmp, oDup, oDup2, oPop, oGo, oFg, oEq, oNe, oLt, oGe, oGt, oLe, oEq0, oNe0, oLt0, oGe0, oGt0, oLe0, oSw, oGi, oGr, oPi, oPz, oPr, oLen, oIl, oZl, oCl, oRl, oIst, oZst, oCst, oRst, oCopy, oNew, oNa, oNa2, oObj, oCs, oCv, oCi, oIr, oZr, oVr, Nat.beq, List.getElem?_cons_zero, List.getElem?_cons_succ, List.set_cons_zero, List.set_cons_succ, List.length_cons, List.length_nil, List.nil_append, List.cons_append, List.append_nil, List.replicate_succ, List.replicate_zero, Nat.reduceAdd, Nat.reduceSub, Nat.reduceLT, Nat.reduceLeDiff, Nat.reduceBEq, true_and, and_true, Nat.zero_add, Nat.add_zero, Nat.le_refl, Option.some.injEq, exists_eq_left', true_or, or_true, or_false, false_or, reduceCtorEq, Prod.mk.injEq, Sum.inl.injEq, and_self, false_and, and_false, not_true_eq_false, not_false_eq_true, false_implies, true_implies, sm_r, Int.add_zero, Int.zero_add, wI_wsI, wS_wsI, wR_wsI, wI_wCp, wS_wCp, wR_wCp, Nat.reduceEqDiff, reduceIte, sT_iff, sT_iffC, wIf_ne, ne_eq, tb_X8_timeOf, p_X8_of, p_X8_stretchFrom, p_X8_way, f_X8_of, f_X8_stretchFrom, f_X8_way, p_X8_timeOf, f_X8_timeOf, sS_154 hT, sR_154_0 hT, sS_155 hT, hw1, sFrom_m, hvt]
    repeat' (first | assumption | with_reducible refine And.intro ?_ ?_ | intro _)
    all_goals first
      | omega
      | rfl
      | (split <;> omega)
      | (have k9 := ih (by omega)
         (repeat' split at k9) <;> first | exact k9 | omega)
      | (congr 1; omega)
      | grind
      | skip
    )
    rw [Int.sub_zero, wT_0] at hl
    refine hZ (fun u => Nat.beq u 5) 40 0 _ _ _ _ _ ?_
    simp only [sm_run, sm_blk, sm_get, sm_ent, sm_ents, sm_wds, sm_wd, sm_nl, sm_pop, sm_back, sm_cases, oK, oLK, oL, oI, oA, oJ, oIs, oAs, oJs, oInc, oAdd, oSub, oMul, oDiv, oRem, oNeg, oAnd, oOr, oShl, oI2c, oI2l, oL2i, oLand, oLor, oLshl, oLshr, oLushr, oLcmp, oDup, oDup2, oPop, oGo, oFg, oEq, oNe, oLt, oGe, oGt, oLe, oEq0, oNe0, oLt0, oGe0, oGt0, oLe0, oSw, oGi, oGr, oPi, oPz, oPr, oLen, oIl, oZl, oCl, oRl, oIst, oZst, oCst, oRst, oCopy, oNew, oNa, oNa2, oObj, oCs, oCv, oCi, oIr, oZr, oVr, Nat.beq, List.getElem?_cons_zero, List.getElem?_cons_succ, List.set_cons_zero, List.set_cons_succ, List.length_cons, List.length_nil, List.nil_append, List.cons_append, List.append_nil, List.replicate_succ, List.replicate_zero, Nat.reduceAdd, Nat.reduceSub, Nat.reduceLT, Nat.reduceLeDiff, Nat.reduceBEq, true_and, and_true, Nat.zero_add, Nat.add_zero, Nat.le_refl, Option.some.injEq, exists_eq_left', true_or, or_true, or_false, false_or, reduceCtorEq, Prod.mk.injEq, Sum.inl.injEq, and_self, false_and, and_false, not_true_eq_false, not_false_eq_true, false_implies, true_implies, sm_r, Int.add_zero, Int.zero_add, wI_wsI, wS_wsI, wR_wsI, wI_wCp, wS_wCp, wR_wCp, Nat.reduceEqDiff, reduceIte, sT_iff, sT_iffC, wIf_ne, ne_eq, tb_X8_timeOf, p_X8_of, p_X8_stretchFrom, p_X8_way, f_X8_of, f_X8_stretchFrom, f_X8_way, p_X8_timeOf, f_X8_timeOf]
    repeat' (first | assumption | with_reducible refine And.intro ?_ ?_ | intro _)
    all_goals first
      | omega
      | rfl
      | (split <;> omega)
      | (have k9 := ih (by omega)
         (repeat' split at k9) <;> first | exact k9 | omega)
      | (congr 1; omega)
      | skip

theorem met_X8_timeOf (l : Launch) : sm_Met l yX8_timeOf cX8_timeOf 5 (some .int) 2 0 0 p_X8_timeOf f_X8_timeOf := sm_met 1 (Or.inr (Or.inl ⟨rfl, rfl⟩)) (by decide +kernel) (sn_X8_timeOf l) ok_X8_timeOf
def mAhead (w : sm_W) (x y : Int) : Int := if wI w 155 0 = 1 ∧ mReady w x ≠ mReady w y then (if mReady w x < mReady w y then 1 else 0) else (if wI w 155 0 = 2 ∧ vTime (wI w 155) x (wI w 161 x) ≠ vTime (wI w 155) y (wI w 161 y) then (if vTime (wI w 155) y (wI w 161 y) < vTime (wI w 155) x (wI w 161 x) then 1 else 0) else (if wI w 155 (17 + 5 * x + 4) ≠ wI w 155 (17 + 5 * y + 4) then (if wI w 155 (17 + 5 * y + 4) < wI w 155 (17 + 5 * x + 4) then 1 else 0) else (if x < y then 1 else 0)))
def p_X8_goesAhead : List sm_V → sm_W → Prop
  | [.inr (.inl m), .inl x, .inl y], w => m = 154 ∧ mDay w ∧ 0 ≤ x ∧ x < wI w 155 1 ∧ wI w 160 x ≤ 1 ∧ 0 ≤ y ∧ y < wI w 155 1 ∧ wI w 160 y ≤ 1
  | _, _ => False
def f_X8_goesAhead : sm_F
  | [.inr (.inl m), .inl x, .inl y], w => (some (.inl (mAhead w x y)), w)
  | _, w => (none, w)
def tb_X8_goesAhead : List (Nat × List sm_O) := [(0, [oA 0, oGr 8 30 0, oK 0, oIl, oIs 3, oI 3, oK 1, oNe 44, oA 0, oI 1, oCv 8 30 p_X8_readyAt f_X8_readyAt 0 0 2, oA 0, oI 2, oCv 8 30 p_X8_readyAt f_X8_readyAt 0 0 2, oEq 44, oA 0, oI 1, oCv 8 30 p_X8_readyAt f_X8_readyAt 0 0 2, oA 0, oI 2, oCv 8 30 p_X8_readyAt f_X8_readyAt 0 0 2, oGe 42, oK 1, oGo 43]),
  (42, [oK 0, oGo 43]),
  (43, [oZr]),
  (44, [oI 3, oK 2, oNe 105, oA 0, oI 1, oA 0, oGr 8 30 8, oI 1, oIl, oCv 8 30 p_X8_timeOf f_X8_timeOf 0 0 3, oA 0, oI 2, oA 0, oGr 8 30 8, oI 2, oIl, oCv 8 30 p_X8_timeOf f_X8_timeOf 0 0 3, oEq 105, oA 0, oI 1, oA 0, oGr 8 30 8, oI 1, oIl, oCv 8 30 p_X8_timeOf f_X8_timeOf 0 0 3, oA 0, oI 2, oA 0, oGr 8 30 8, oI 2, oIl, oCv 8 30 p_X8_timeOf f_X8_timeOf 0 0 3, oLe 103, oK 1, oGo 104]),
  (103, [oK 0, oGo 104]),
  (104, [oZr]),
  (105, [oA 0, oI 1, oK 4, oCv 8 30 p_X8_of f_X8_of 0 0 3, oA 0, oI 2, oK 4, oCv 8 30 p_X8_of f_X8_of 0 0 3, oEq 143, oA 0, oI 1, oK 4, oCv 8 30 p_X8_of f_X8_of 0 0 3, oA 0, oI 2, oK 4, oCv 8 30 p_X8_of f_X8_of 0 0 3, oLe 139, oK 1, oGo 153]),
  (139, [oK 0, oGo 153]),
  (143, [oI 1, oI 2, oGe 152, oK 1, oGo 153]),
  (152, [oK 0, oGo 153]),
  (153, [oZr])]
set_option maxRecDepth 100000 in
theorem sb_X8_goesAhead_0 (l : Launch) : sm_SndB l RX8 "goesAhead" cX8_goesAhead 4 2 3 0 [oA 0, oGr 8 30 0, oK 0, oIl, oIs 3, oI 3, oK 1, oNe 44, oA 0, oI 1, oCv 8 30 p_X8_readyAt f_X8_readyAt 0 0 2, oA 0, oI 2, oCv 8 30 p_X8_readyAt f_X8_readyAt 0 0 2, oEq 44, oA 0, oI 1, oCv 8 30 p_X8_readyAt f_X8_readyAt 0 0 2, oA 0, oI 2, oCv 8 30 p_X8_readyAt f_X8_readyAt 0 0 2, oGe 42, oK 1, oGo 43] := sb_cons (sd_aload_n (by decide +kernel : decode cX8_goesAhead 0 = .ok (.aload_n 0, 1)) rfl) (sb_cons (sd_getr (k := 0) kl_8 (by decide) rfl wm_673 (by decide +kernel : decode cX8_goesAhead 1 = .ok (.getfield 7, 3))) (sb_cons (sd_iconst (by decide +kernel : decode cX8_goesAhead 4 = .ok (.iconst 0, 1)) ⟨by decide, by decide⟩) (sb_cons (sd_iaload (by decide +kernel : decode cX8_goesAhead 5 = .ok (.iaload, 1))) (sb_cons (sd_istore_n (by decide +kernel : decode cX8_goesAhead 6 = .ok (.istore_n 3, 1)) rfl) (sb_cons (sd_iload_n (by decide +kernel : decode cX8_goesAhead 7 = .ok (.iload_n 3, 1)) rfl) (sb_cons (sd_iconst (by decide +kernel : decode cX8_goesAhead 8 = .ok (.iconst 1, 1)) ⟨by decide, by decide⟩) (sb_cons (sd_ne (by decide +kernel : decode cX8_goesAhead 9 = .ok (.if_icmp .ne 35, 3)) (by decide)) (sb_cons (sd_aload_n (by decide +kernel : decode cX8_goesAhead 12 = .ok (.aload_n 0, 1)) rfl) (sb_cons (sd_iload_n (by decide +kernel : decode cX8_goesAhead 13 = .ok (.iload_n 1, 1)) rfl) (sb_cons (sd_callv (n := 1) (met_X8_readyAt l) (by decide) (by decide) wm_845 wm_843 wm_10 ⟨by decide +kernel, by decide +kernel, by decide +kernel⟩ kl_8 wm_844 wm_1126 (by decide +kernel : decode cX8_goesAhead 14 = .ok (.invokevirtual 99, 3))) (sb_cons (sd_aload_n (by decide +kernel : decode cX8_goesAhead 17 = .ok (.aload_n 0, 1)) rfl) (sb_cons (sd_iload_n (by decide +kernel : decode cX8_goesAhead 18 = .ok (.iload_n 2, 1)) rfl) (sb_cons (sd_callv (n := 1) (met_X8_readyAt l) (by decide) (by decide) wm_845 wm_843 wm_10 ⟨by decide +kernel, by decide +kernel, by decide +kernel⟩ kl_8 wm_844 wm_1126 (by decide +kernel : decode cX8_goesAhead 19 = .ok (.invokevirtual 99, 3))) (sb_cons (sd_eq (by decide +kernel : decode cX8_goesAhead 22 = .ok (.if_icmp .eq 22, 3)) (by decide)) (sb_cons (sd_aload_n (by decide +kernel : decode cX8_goesAhead 25 = .ok (.aload_n 0, 1)) rfl) (sb_cons (sd_iload_n (by decide +kernel : decode cX8_goesAhead 26 = .ok (.iload_n 1, 1)) rfl) (sb_cons (sd_callv (n := 1) (met_X8_readyAt l) (by decide) (by decide) wm_845 wm_843 wm_10 ⟨by decide +kernel, by decide +kernel, by decide +kernel⟩ kl_8 wm_844 wm_1126 (by decide +kernel : decode cX8_goesAhead 27 = .ok (.invokevirtual 99, 3))) (sb_cons (sd_aload_n (by decide +kernel : decode cX8_goesAhead 30 = .ok (.aload_n 0, 1)) rfl) (sb_cons (sd_iload_n (by decide +kernel : decode cX8_goesAhead 31 = .ok (.iload_n 2, 1)) rfl) (sb_cons (sd_callv (n := 1) (met_X8_readyAt l) (by decide) (by decide) wm_845 wm_843 wm_10 ⟨by decide +kernel, by decide +kernel, by decide +kernel⟩ kl_8 wm_844 wm_1126 (by decide +kernel : decode cX8_goesAhead 32 = .ok (.invokevirtual 99, 3))) (sb_cons (sd_ge (by decide +kernel : decode cX8_goesAhead 35 = .ok (.if_icmp .ge 7, 3)) (by decide)) (sb_cons (sd_iconst (by decide +kernel : decode cX8_goesAhead 38 = .ok (.iconst 1, 1)) ⟨by decide, by decide⟩) (sb_cons (sd_goto (x := 0) (by decide +kernel : decode cX8_goesAhead 39 = .ok (.goto 4, 3)) (by decide)) sb_nil)))))))))))))))))))))))
set_option maxRecDepth 100000 in
theorem sb_X8_goesAhead_42 (l : Launch) : sm_SndB l RX8 "goesAhead" cX8_goesAhead 4 2 3 42 [oK 0, oGo 43] := sb_cons (sd_iconst (by decide +kernel : decode cX8_goesAhead 42 = .ok (.iconst 0, 1)) ⟨by decide, by decide⟩) (sb_cons (sd_fall (x := 0)) sb_nil)
set_option maxRecDepth 100000 in
theorem sb_X8_goesAhead_43 (l : Launch) : sm_SndB l RX8 "goesAhead" cX8_goesAhead 4 2 3 43 [oZr] := sb_cons (sd_zreturn (x := 0) rfl (by decide +kernel : decode cX8_goesAhead 43 = .ok (.ireturn, 1))) sb_nil
set_option maxRecDepth 100000 in
theorem sb_X8_goesAhead_44 (l : Launch) : sm_SndB l RX8 "goesAhead" cX8_goesAhead 4 2 3 44 [oI 3, oK 2, oNe 105, oA 0, oI 1, oA 0, oGr 8 30 8, oI 1, oIl, oCv 8 30 p_X8_timeOf f_X8_timeOf 0 0 3, oA 0, oI 2, oA 0, oGr 8 30 8, oI 2, oIl, oCv 8 30 p_X8_timeOf f_X8_timeOf 0 0 3, oEq 105, oA 0, oI 1, oA 0, oGr 8 30 8, oI 1, oIl, oCv 8 30 p_X8_timeOf f_X8_timeOf 0 0 3, oA 0, oI 2, oA 0, oGr 8 30 8, oI 2, oIl, oCv 8 30 p_X8_timeOf f_X8_timeOf 0 0 3, oLe 103, oK 1, oGo 104] := sb_cons (sd_iload_n (by decide +kernel : decode cX8_goesAhead 44 = .ok (.iload_n 3, 1)) rfl) (sb_cons (sd_iconst (by decide +kernel : decode cX8_goesAhead 45 = .ok (.iconst 2, 1)) ⟨by decide, by decide⟩) (sb_cons (sd_ne (by decide +kernel : decode cX8_goesAhead 46 = .ok (.if_icmp .ne 59, 3)) (by decide)) (sb_cons (sd_aload_n (by decide +kernel : decode cX8_goesAhead 49 = .ok (.aload_n 0, 1)) rfl) (sb_cons (sd_iload_n (by decide +kernel : decode cX8_goesAhead 50 = .ok (.iload_n 1, 1)) rfl) (sb_cons (sd_aload_n (by decide +kernel : decode cX8_goesAhead 51 = .ok (.aload_n 0, 1)) rfl) (sb_cons (sd_getr (k := 8) kl_8 (by decide) rfl wm_681 (by decide +kernel : decode cX8_goesAhead 52 = .ok (.getfield 29, 3))) (sb_cons (sd_iload_n (by decide +kernel : decode cX8_goesAhead 55 = .ok (.iload_n 1, 1)) rfl) (sb_cons (sd_iaload (by decide +kernel : decode cX8_goesAhead 56 = .ok (.iaload, 1))) (sb_cons (sd_callv (n := 2) (met_X8_timeOf l) (by decide) (by decide) wm_865 wm_863 wm_10 ⟨by decide +kernel, by decide +kernel, by decide +kernel⟩ kl_8 wm_864 wm_1130 (by decide +kernel : decode cX8_goesAhead 57 = .ok (.invokevirtual 115, 3))) (sb_cons (sd_aload_n (by decide +kernel : decode cX8_goesAhead 60 = .ok (.aload_n 0, 1)) rfl) (sb_cons (sd_iload_n (by decide +kernel : decode cX8_goesAhead 61 = .ok (.iload_n 2, 1)) rfl) (sb_cons (sd_aload_n (by decide +kernel : decode cX8_goesAhead 62 = .ok (.aload_n 0, 1)) rfl) (sb_cons (sd_getr (k := 8) kl_8 (by decide) rfl wm_681 (by decide +kernel : decode cX8_goesAhead 63 = .ok (.getfield 29, 3))) (sb_cons (sd_iload_n (by decide +kernel : decode cX8_goesAhead 66 = .ok (.iload_n 2, 1)) rfl) (sb_cons (sd_iaload (by decide +kernel : decode cX8_goesAhead 67 = .ok (.iaload, 1))) (sb_cons (sd_callv (n := 2) (met_X8_timeOf l) (by decide) (by decide) wm_865 wm_863 wm_10 ⟨by decide +kernel, by decide +kernel, by decide +kernel⟩ kl_8 wm_864 wm_1130 (by decide +kernel : decode cX8_goesAhead 68 = .ok (.invokevirtual 115, 3))) (sb_cons (sd_eq (by decide +kernel : decode cX8_goesAhead 71 = .ok (.if_icmp .eq 34, 3)) (by decide)) (sb_cons (sd_aload_n (by decide +kernel : decode cX8_goesAhead 74 = .ok (.aload_n 0, 1)) rfl) (sb_cons (sd_iload_n (by decide +kernel : decode cX8_goesAhead 75 = .ok (.iload_n 1, 1)) rfl) (sb_cons (sd_aload_n (by decide +kernel : decode cX8_goesAhead 76 = .ok (.aload_n 0, 1)) rfl) (sb_cons (sd_getr (k := 8) kl_8 (by decide) rfl wm_681 (by decide +kernel : decode cX8_goesAhead 77 = .ok (.getfield 29, 3))) (sb_cons (sd_iload_n (by decide +kernel : decode cX8_goesAhead 80 = .ok (.iload_n 1, 1)) rfl) (sb_cons (sd_iaload (by decide +kernel : decode cX8_goesAhead 81 = .ok (.iaload, 1))) (sb_cons (sd_callv (n := 2) (met_X8_timeOf l) (by decide) (by decide) wm_865 wm_863 wm_10 ⟨by decide +kernel, by decide +kernel, by decide +kernel⟩ kl_8 wm_864 wm_1130 (by decide +kernel : decode cX8_goesAhead 82 = .ok (.invokevirtual 115, 3))) (sb_cons (sd_aload_n (by decide +kernel : decode cX8_goesAhead 85 = .ok (.aload_n 0, 1)) rfl) (sb_cons (sd_iload_n (by decide +kernel : decode cX8_goesAhead 86 = .ok (.iload_n 2, 1)) rfl) (sb_cons (sd_aload_n (by decide +kernel : decode cX8_goesAhead 87 = .ok (.aload_n 0, 1)) rfl) (sb_cons (sd_getr (k := 8) kl_8 (by decide) rfl wm_681 (by decide +kernel : decode cX8_goesAhead 88 = .ok (.getfield 29, 3))) (sb_cons (sd_iload_n (by decide +kernel : decode cX8_goesAhead 91 = .ok (.iload_n 2, 1)) rfl) (sb_cons (sd_iaload (by decide +kernel : decode cX8_goesAhead 92 = .ok (.iaload, 1))) (sb_cons (sd_callv (n := 2) (met_X8_timeOf l) (by decide) (by decide) wm_865 wm_863 wm_10 ⟨by decide +kernel, by decide +kernel, by decide +kernel⟩ kl_8 wm_864 wm_1130 (by decide +kernel : decode cX8_goesAhead 93 = .ok (.invokevirtual 115, 3))) (sb_cons (sd_le (by decide +kernel : decode cX8_goesAhead 96 = .ok (.if_icmp .le 7, 3)) (by decide)) (sb_cons (sd_iconst (by decide +kernel : decode cX8_goesAhead 99 = .ok (.iconst 1, 1)) ⟨by decide, by decide⟩) (sb_cons (sd_goto (x := 0) (by decide +kernel : decode cX8_goesAhead 100 = .ok (.goto 4, 3)) (by decide)) sb_nil))))))))))))))))))))))))))))))))))
set_option maxRecDepth 100000 in
theorem sb_X8_goesAhead_103 (l : Launch) : sm_SndB l RX8 "goesAhead" cX8_goesAhead 4 2 3 103 [oK 0, oGo 104] := sb_cons (sd_iconst (by decide +kernel : decode cX8_goesAhead 103 = .ok (.iconst 0, 1)) ⟨by decide, by decide⟩) (sb_cons (sd_fall (x := 0)) sb_nil)
set_option maxRecDepth 100000 in
theorem sb_X8_goesAhead_104 (l : Launch) : sm_SndB l RX8 "goesAhead" cX8_goesAhead 4 2 3 104 [oZr] := sb_cons (sd_zreturn (x := 0) rfl (by decide +kernel : decode cX8_goesAhead 104 = .ok (.ireturn, 1))) sb_nil
set_option maxRecDepth 100000 in
theorem sb_X8_goesAhead_105 (l : Launch) : sm_SndB l RX8 "goesAhead" cX8_goesAhead 4 2 3 105 [oA 0, oI 1, oK 4, oCv 8 30 p_X8_of f_X8_of 0 0 3, oA 0, oI 2, oK 4, oCv 8 30 p_X8_of f_X8_of 0 0 3, oEq 143, oA 0, oI 1, oK 4, oCv 8 30 p_X8_of f_X8_of 0 0 3, oA 0, oI 2, oK 4, oCv 8 30 p_X8_of f_X8_of 0 0 3, oLe 139, oK 1, oGo 153] := sb_cons (sd_aload_n (by decide +kernel : decode cX8_goesAhead 105 = .ok (.aload_n 0, 1)) rfl) (sb_cons (sd_iload_n (by decide +kernel : decode cX8_goesAhead 106 = .ok (.iload_n 1, 1)) rfl) (sb_cons (sd_iconst (by decide +kernel : decode cX8_goesAhead 107 = .ok (.iconst 4, 1)) ⟨by decide, by decide⟩) (sb_cons (sd_callv (n := 2) (met_X8_of l) (by decide) (by decide) wm_778 wm_776 wm_10 ⟨by decide +kernel, by decide +kernel, by decide +kernel⟩ kl_8 wm_777 wm_1113 (by decide +kernel : decode cX8_goesAhead 108 = .ok (.invokevirtual 78, 3))) (sb_cons (sd_aload_n (by decide +kernel : decode cX8_goesAhead 111 = .ok (.aload_n 0, 1)) rfl) (sb_cons (sd_iload_n (by decide +kernel : decode cX8_goesAhead 112 = .ok (.iload_n 2, 1)) rfl) (sb_cons (sd_iconst (by decide +kernel : decode cX8_goesAhead 113 = .ok (.iconst 4, 1)) ⟨by decide, by decide⟩) (sb_cons (sd_callv (n := 2) (met_X8_of l) (by decide) (by decide) wm_778 wm_776 wm_10 ⟨by decide +kernel, by decide +kernel, by decide +kernel⟩ kl_8 wm_777 wm_1113 (by decide +kernel : decode cX8_goesAhead 114 = .ok (.invokevirtual 78, 3))) (sb_cons (sd_eq (by decide +kernel : decode cX8_goesAhead 117 = .ok (.if_icmp .eq 26, 3)) (by decide)) (sb_cons (sd_aload_n (by decide +kernel : decode cX8_goesAhead 120 = .ok (.aload_n 0, 1)) rfl) (sb_cons (sd_iload_n (by decide +kernel : decode cX8_goesAhead 121 = .ok (.iload_n 1, 1)) rfl) (sb_cons (sd_iconst (by decide +kernel : decode cX8_goesAhead 122 = .ok (.iconst 4, 1)) ⟨by decide, by decide⟩) (sb_cons (sd_callv (n := 2) (met_X8_of l) (by decide) (by decide) wm_778 wm_776 wm_10 ⟨by decide +kernel, by decide +kernel, by decide +kernel⟩ kl_8 wm_777 wm_1113 (by decide +kernel : decode cX8_goesAhead 123 = .ok (.invokevirtual 78, 3))) (sb_cons (sd_aload_n (by decide +kernel : decode cX8_goesAhead 126 = .ok (.aload_n 0, 1)) rfl) (sb_cons (sd_iload_n (by decide +kernel : decode cX8_goesAhead 127 = .ok (.iload_n 2, 1)) rfl) (sb_cons (sd_iconst (by decide +kernel : decode cX8_goesAhead 128 = .ok (.iconst 4, 1)) ⟨by decide, by decide⟩) (sb_cons (sd_callv (n := 2) (met_X8_of l) (by decide) (by decide) wm_778 wm_776 wm_10 ⟨by decide +kernel, by decide +kernel, by decide +kernel⟩ kl_8 wm_777 wm_1113 (by decide +kernel : decode cX8_goesAhead 129 = .ok (.invokevirtual 78, 3))) (sb_cons (sd_le (by decide +kernel : decode cX8_goesAhead 132 = .ok (.if_icmp .le 7, 3)) (by decide)) (sb_cons (sd_iconst (by decide +kernel : decode cX8_goesAhead 135 = .ok (.iconst 1, 1)) ⟨by decide, by decide⟩) (sb_cons (sd_goto (x := 0) (by decide +kernel : decode cX8_goesAhead 136 = .ok (.goto 17, 3)) (by decide)) sb_nil)))))))))))))))))))
set_option maxRecDepth 100000 in
theorem sb_X8_goesAhead_139 (l : Launch) : sm_SndB l RX8 "goesAhead" cX8_goesAhead 4 2 3 139 [oK 0, oGo 153] := sb_cons (sd_iconst (by decide +kernel : decode cX8_goesAhead 139 = .ok (.iconst 0, 1)) ⟨by decide, by decide⟩) (sb_cons (sd_goto (x := 0) (by decide +kernel : decode cX8_goesAhead 140 = .ok (.goto 13, 3)) (by decide)) sb_nil)
set_option maxRecDepth 100000 in
theorem sb_X8_goesAhead_143 (l : Launch) : sm_SndB l RX8 "goesAhead" cX8_goesAhead 4 2 3 143 [oI 1, oI 2, oGe 152, oK 1, oGo 153] := sb_cons (sd_iload_n (by decide +kernel : decode cX8_goesAhead 143 = .ok (.iload_n 1, 1)) rfl) (sb_cons (sd_iload_n (by decide +kernel : decode cX8_goesAhead 144 = .ok (.iload_n 2, 1)) rfl) (sb_cons (sd_ge (by decide +kernel : decode cX8_goesAhead 145 = .ok (.if_icmp .ge 7, 3)) (by decide)) (sb_cons (sd_iconst (by decide +kernel : decode cX8_goesAhead 148 = .ok (.iconst 1, 1)) ⟨by decide, by decide⟩) (sb_cons (sd_goto (x := 0) (by decide +kernel : decode cX8_goesAhead 149 = .ok (.goto 4, 3)) (by decide)) sb_nil))))
set_option maxRecDepth 100000 in
theorem sb_X8_goesAhead_152 (l : Launch) : sm_SndB l RX8 "goesAhead" cX8_goesAhead 4 2 3 152 [oK 0, oGo 153] := sb_cons (sd_iconst (by decide +kernel : decode cX8_goesAhead 152 = .ok (.iconst 0, 1)) ⟨by decide, by decide⟩) (sb_cons (sd_fall (x := 0)) sb_nil)
set_option maxRecDepth 100000 in
theorem sb_X8_goesAhead_153 (l : Launch) : sm_SndB l RX8 "goesAhead" cX8_goesAhead 4 2 3 153 [oZr] := sb_cons (sd_zreturn (x := 0) rfl (by decide +kernel : decode cX8_goesAhead 153 = .ok (.ireturn, 1))) sb_nil
theorem sn_X8_goesAhead (l : Launch) : sm_SndT l RX8 "goesAhead" cX8_goesAhead 4 2 3 tb_X8_goesAhead := st_cons (sb_X8_goesAhead_0 l) (st_cons (sb_X8_goesAhead_42 l) (st_cons (sb_X8_goesAhead_43 l) (st_cons (sb_X8_goesAhead_44 l) (st_cons (sb_X8_goesAhead_103 l) (st_cons (sb_X8_goesAhead_104 l) (st_cons (sb_X8_goesAhead_105 l) (st_cons (sb_X8_goesAhead_139 l) (st_cons (sb_X8_goesAhead_143 l) (st_cons (sb_X8_goesAhead_152 l) (st_cons (sb_X8_goesAhead_153 l) (st_nil)))))))))))
set_option maxRecDepth 100000 in
set_option maxHeartbeats 4000000 in
theorem ok_X8_goesAhead : sm_Ok tb_X8_goesAhead 4 0 0 p_X8_goesAhead f_X8_goesAhead := by
  intro as w hp ha hw
  match as, hp with
  | [.inr (.inl m), .inl x, .inl y], hp =>
  refine ⟨Nat.le_of_ble_eq_true rfl, fun Z hZ => ?_⟩
  obtain ⟨rfl, ⟨⟨hT, hv⟩, hd⟩, h1, h2, h3, h4, h5, h6⟩ := hp
  have hm := vOK_many hv
  have hx := hd x h1 h2
  have hy := hd y h4 h5
  simp only [mSh] at hx hy
  have hq := vOK_sh hv h1 h2
  have hq2 := vOK_sh hv h4 h5
  have hD : mDay w := ⟨⟨hT, hv⟩, hd⟩
  have hO : mOK w := ⟨hT, hv⟩
  refine hZ (fun _ => false) 40 0 _ _ _ _ _ ?_
  simp only [sm_run, sm_blk, sm_get, sm_ent, sm_ents, sm_wds, sm_wd, sm_nl, sm_pop, sm_back, sm_cases, oK, oLK, oL, oI, oA, oJ, oIs, oAs, oJs, oInc, oAdd, oSub, oMul, oDiv, oRem, oNeg, oAnd, oOr, oShl, oI2c, oI2l, oL2i, oLand, oLor, oLshl, oLshr, oLushr, oLcmp, oDup, oDup2, oPop, oGo, oFg, oEq, oNe, oLt, oGe, oGt, oLe, oEq0, oNe0, oLt0, oGe0, oGt0, oLe0, oSw, oGi, oGr, oPi, oPz, oPr, oLen, oIl, oZl, oCl, oRl, oIst, oZst, oCst, oRst, oCopy, oNew, oNa, oNa2, oObj, oCs, oCv, oCi, oIr, oZr, oVr, Nat.beq, List.getElem?_cons_zero, List.getElem?_cons_succ, List.set_cons_zero, List.set_cons_succ, List.length_cons, List.length_nil, List.nil_append, List.cons_append, List.append_nil, List.replicate_succ, List.replicate_zero, Nat.reduceAdd, Nat.reduceSub, Nat.reduceLT, Nat.reduceLeDiff, Nat.reduceBEq, true_and, and_true, Nat.zero_add, Nat.add_zero, Nat.le_refl, Option.some.injEq, exists_eq_left', true_or, or_true, or_false, false_or, reduceCtorEq, Prod.mk.injEq, Sum.inl.injEq, and_self, false_and, and_false, not_true_eq_false, not_false_eq_true, false_implies, true_implies, sm_r, Int.add_zero, Int.zero_add, wI_wsI, wS_wsI, wR_wsI, wI_wCp, wS_wCp, wR_wCp, Nat.reduceEqDiff, reduceIte, sT_iff, sT_iffC, wIf_ne, ne_eq, tb_X8_goesAhead, p_X8_of, p_X8_readyAt, p_X8_timeOf, f_X8_of, f_X8_readyAt, f_X8_timeOf, p_X8_goesAhead, f_X8_goesAhead, sS_154 hT, sR_154_0 hT, sS_155 hT, sR_154_7 hT, sS_160 hT, sR_154_8 hT, sS_161 hT]
  repeat' (first | assumption | with_reducible refine And.intro ?_ ?_ | intro _)
  all_goals first
    | omega
    | rfl
    | (split <;> omega)
    | grind [mAhead]
    | skip
theorem met_X8_goesAhead (l : Launch) : sm_Met l yX8_goesAhead cX8_goesAhead 4 (some .boolean) 3 0 0 p_X8_goesAhead f_X8_goesAhead := sm_met 2 (Or.inr (Or.inr ⟨rfl, rfl⟩)) (by decide +kernel) (sn_X8_goesAhead l) ok_X8_goesAhead
def mNx (w : sm_W) (t x best : Int) : Int := if mCan w x t = 1 then (if best < 0 then x else (if mAhead w x best = 1 then x else best)) else best
def mNext (w : sm_W) (t : Int) : Int → Int := itI (mNx w t) (-6)
theorem mNext_in (w : sm_W) (t n : Int) (hn : 0 ≤ n) : mNext w t n = -6 ∨ (0 ≤ mNext w t n ∧ mNext w t n < n ∧ mCan w (mNext w t n) t = 1) := by
  refine itI_ind (fun i r => r = -6 ∨ (0 ≤ r ∧ r < i ∧ mCan w r t = 1)) n (Or.inl rfl) (fun i r h0 h1 h => ?_) n hn (Int.le_refl _)
  unfold mNx
  grind
theorem mAhead_01 (w : sm_W) (x y : Int) : mAhead w x y = 0 ∨ mAhead w x y = 1 := by
  unfold mAhead
  grind
theorem mCan_01 (w : sm_W) (x t : Int) : mCan w x t = 0 ∨ mCan w x t = 1 := by
  unfold mCan
  grind
def p_X8_nextToLeave : List sm_V → sm_W → Prop
  | [.inr (.inl m), .inl t], w => m = 154 ∧ mDay w
  | _, _ => False
def f_X8_nextToLeave : sm_F
  | [.inr (.inl m), .inl t], w => (some (.inl (mNext w t (wI w 155 1))), w)
  | _, w => (none, w)
def tb_X8_nextToLeave : List (Nat × List sm_O) := [(0, [oK (-6), oIs 2, oK 0, oIs 3, oGo 5]),
  (5, [oI 3, oA 0, oGr 8 30 0, oK 1, oIl, oGe 49, oA 0, oI 3, oI 1, oCv 8 30 p_X8_canLeave f_X8_canLeave 0 0 3, oEq0 41, oI 2, oLt0 37, oA 0, oI 3, oI 2, oCv 8 30 p_X8_goesAhead f_X8_goesAhead 0 0 3, oEq0 41, oGo 37]),
  (37, [oI 3, oGo 42]),
  (41, [oI 2, oGo 42]),
  (42, [oIs 2, oInc 3 1, oGo 5]),
  (49, [oI 2, oIr])]
set_option maxRecDepth 100000 in
theorem sb_X8_nextToLeave_0 (l : Launch) : sm_SndB l RX8 "nextToLeave" cX8_nextToLeave 4 1 4 0 [oK (-6), oIs 2, oK 0, oIs 3, oGo 5] := sb_cons (sd_bipush (by decide +kernel : decode cX8_nextToLeave 0 = .ok (.bipush (-6), 2)) ⟨by decide, by decide⟩ (by decide)) (sb_cons (sd_istore_n (by decide +kernel : decode cX8_nextToLeave 2 = .ok (.istore_n 2, 1)) rfl) (sb_cons (sd_iconst (by decide +kernel : decode cX8_nextToLeave 3 = .ok (.iconst 0, 1)) ⟨by decide, by decide⟩) (sb_cons (sd_istore_n (by decide +kernel : decode cX8_nextToLeave 4 = .ok (.istore_n 3, 1)) rfl) (sb_cons (sd_fall (x := 0)) sb_nil))))
set_option maxRecDepth 100000 in
theorem sb_X8_nextToLeave_5 (l : Launch) : sm_SndB l RX8 "nextToLeave" cX8_nextToLeave 4 1 4 5 [oI 3, oA 0, oGr 8 30 0, oK 1, oIl, oGe 49, oA 0, oI 3, oI 1, oCv 8 30 p_X8_canLeave f_X8_canLeave 0 0 3, oEq0 41, oI 2, oLt0 37, oA 0, oI 3, oI 2, oCv 8 30 p_X8_goesAhead f_X8_goesAhead 0 0 3, oEq0 41, oGo 37] := sb_cons (sd_iload_n (by decide +kernel : decode cX8_nextToLeave 5 = .ok (.iload_n 3, 1)) rfl) (sb_cons (sd_aload_n (by decide +kernel : decode cX8_nextToLeave 6 = .ok (.aload_n 0, 1)) rfl) (sb_cons (sd_getr (k := 0) kl_8 (by decide) rfl wm_673 (by decide +kernel : decode cX8_nextToLeave 7 = .ok (.getfield 7, 3))) (sb_cons (sd_iconst (by decide +kernel : decode cX8_nextToLeave 10 = .ok (.iconst 1, 1)) ⟨by decide, by decide⟩) (sb_cons (sd_iaload (by decide +kernel : decode cX8_nextToLeave 11 = .ok (.iaload, 1))) (sb_cons (sd_ge (by decide +kernel : decode cX8_nextToLeave 12 = .ok (.if_icmp .ge 37, 3)) (by decide)) (sb_cons (sd_aload_n (by decide +kernel : decode cX8_nextToLeave 15 = .ok (.aload_n 0, 1)) rfl) (sb_cons (sd_iload_n (by decide +kernel : decode cX8_nextToLeave 16 = .ok (.iload_n 3, 1)) rfl) (sb_cons (sd_iload_n (by decide +kernel : decode cX8_nextToLeave 17 = .ok (.iload_n 1, 1)) rfl) (sb_cons (sd_callv (n := 2) (met_X8_canLeave l) (by decide) (by decide) wm_837 wm_835 wm_10 ⟨by decide +kernel, by decide +kernel, by decide +kernel⟩ kl_8 wm_836 wm_1124 (by decide +kernel : decode cX8_nextToLeave 18 = .ok (.invokevirtual 118, 3))) (sb_cons (sd_eq0 (by decide +kernel : decode cX8_nextToLeave 21 = .ok (.ifCond .eq 20, 3)) (by decide)) (sb_cons (sd_iload_n (by decide +kernel : decode cX8_nextToLeave 24 = .ok (.iload_n 2, 1)) rfl) (sb_cons (sd_lt0 (by decide +kernel : decode cX8_nextToLeave 25 = .ok (.ifCond .lt 12, 3)) (by decide)) (sb_cons (sd_aload_n (by decide +kernel : decode cX8_nextToLeave 28 = .ok (.aload_n 0, 1)) rfl) (sb_cons (sd_iload_n (by decide +kernel : decode cX8_nextToLeave 29 = .ok (.iload_n 3, 1)) rfl) (sb_cons (sd_iload_n (by decide +kernel : decode cX8_nextToLeave 30 = .ok (.iload_n 2, 1)) rfl) (sb_cons (sd_callv (n := 2) (met_X8_goesAhead l) (by decide) (by decide) wm_861 wm_859 wm_10 ⟨by decide +kernel, by decide +kernel, by decide +kernel⟩ kl_8 wm_860 wm_1129 (by decide +kernel : decode cX8_nextToLeave 31 = .ok (.invokevirtual 121, 3))) (sb_cons (sd_eq0 (by decide +kernel : decode cX8_nextToLeave 34 = .ok (.ifCond .eq 7, 3)) (by decide)) (sb_cons (sd_fall (x := 0)) sb_nil))))))))))))))))))
set_option maxRecDepth 100000 in
theorem sb_X8_nextToLeave_37 (l : Launch) : sm_SndB l RX8 "nextToLeave" cX8_nextToLeave 4 1 4 37 [oI 3, oGo 42] := sb_cons (sd_iload_n (by decide +kernel : decode cX8_nextToLeave 37 = .ok (.iload_n 3, 1)) rfl) (sb_cons (sd_goto (x := 0) (by decide +kernel : decode cX8_nextToLeave 38 = .ok (.goto 4, 3)) (by decide)) sb_nil)
set_option maxRecDepth 100000 in
theorem sb_X8_nextToLeave_41 (l : Launch) : sm_SndB l RX8 "nextToLeave" cX8_nextToLeave 4 1 4 41 [oI 2, oGo 42] := sb_cons (sd_iload_n (by decide +kernel : decode cX8_nextToLeave 41 = .ok (.iload_n 2, 1)) rfl) (sb_cons (sd_fall (x := 0)) sb_nil)
set_option maxRecDepth 100000 in
theorem sb_X8_nextToLeave_42 (l : Launch) : sm_SndB l RX8 "nextToLeave" cX8_nextToLeave 4 1 4 42 [oIs 2, oInc 3 1, oGo 5] := sb_cons (sd_istore_n (by decide +kernel : decode cX8_nextToLeave 42 = .ok (.istore_n 2, 1)) rfl) (sb_cons (sd_iinc (by decide +kernel : decode cX8_nextToLeave 43 = .ok (.iinc 3 1, 3))) (sb_cons (sd_goto (x := 0) (by decide +kernel : decode cX8_nextToLeave 46 = .ok (.goto (-41), 3)) (by decide)) sb_nil))
set_option maxRecDepth 100000 in
theorem sb_X8_nextToLeave_49 (l : Launch) : sm_SndB l RX8 "nextToLeave" cX8_nextToLeave 4 1 4 49 [oI 2, oIr] := sb_cons (sd_iload_n (by decide +kernel : decode cX8_nextToLeave 49 = .ok (.iload_n 2, 1)) rfl) (sb_cons (sd_ireturn (x := 0) rfl (by decide +kernel : decode cX8_nextToLeave 50 = .ok (.ireturn, 1))) sb_nil)
theorem sn_X8_nextToLeave (l : Launch) : sm_SndT l RX8 "nextToLeave" cX8_nextToLeave 4 1 4 tb_X8_nextToLeave := st_cons (sb_X8_nextToLeave_0 l) (st_cons (sb_X8_nextToLeave_5 l) (st_cons (sb_X8_nextToLeave_37 l) (st_cons (sb_X8_nextToLeave_41 l) (st_cons (sb_X8_nextToLeave_42 l) (st_cons (sb_X8_nextToLeave_49 l) (st_nil))))))
set_option maxRecDepth 100000 in
set_option maxHeartbeats 4000000 in
theorem ok_X8_nextToLeave : sm_Ok tb_X8_nextToLeave 4 0 0 p_X8_nextToLeave f_X8_nextToLeave := by
  intro as w hp ha hw
  match as, hp with
  | [.inr (.inl m), .inl t], hp =>
  refine ⟨Nat.le_of_ble_eq_true rfl, fun Z hZ => ?_⟩
  obtain ⟨rfl, ⟨⟨hT, hv⟩, hd⟩⟩ := hp
  have hm := vOK_many hv
  have hD : mDay w := ⟨⟨hT, hv⟩, hd⟩
  have hl := sm_loopI Z 5 0 (wI w 155 1) (fun i => [some (.inr (.inl 154)), some (.inl t), some (.inl (mNext w t i)), some (.inl i)]) (fun _ => w) 0 0 hm.1 (fun i h0 h1 ih => by
    have hb := mNext_in w t i h0
    have hc := mCan_01 w i t
    have hc1 := fun h => mCan_pre (w := w) (x := i) (t := t) h
    have hc2 := fun h => mCan_pre (w := w) (x := mNext w t i) (t := t) h
    have ha := mAhead_01 w i (mNext w t i)
    have hu : mNext w t (i + 1) = mNx w t i (mNext w t i) := itI_s _ _ h0
    rw [hu] at ih
    unfold mNx at ih
    refine hZ (fun u => Nat.beq u 5) 40 5 _ _ _ _ _ ?_
    simp only [sm_run, sm_blk, sm_get, sm_ent, sm_ents, sm_wds, sm_wd, sm_nl, sm_pop, sm_back, sm_cases, oK, oLK, oL, oI, oA, oJ, oIs, oAs, oJs, oInc, oAdd, oSub, oMul, oDiv, oRem, oNeg, oAnd, oOr, oShl, oI2c, oI2l, oL2i, oLand, oLor, oLshl, oLshr, oLushr, oLcmp, oDup, oDup2, oPop, oGo, oFg, oEq, oNe, oLt, oGe, oGt, oLe, oEq0, oNe0, oLt0, oGe0, oGt0, oLe0, oSw, oGi, oGr, oPi, oPz, oPr, oLen, oIl, oZl, oCl, oRl, oIst, oZst, oCst, oRst, oCopy, oNew, oNa, oNa2, oObj, oCs, oCv, oCi, oIr, oZr, oVr, Nat.beq, List.getElem?_cons_zero, List.getElem?_cons_succ, List.set_cons_zero, List.set_cons_succ, List.length_cons, List.length_nil, List.nil_append, List.cons_append, List.append_nil, List.replicate_succ, List.replicate_zero, Nat.reduceAdd, Nat.reduceSub, Nat.reduceLT, Nat.reduceLeDiff, Nat.reduceBEq, true_and, and_true, Nat.zero_add, Nat.add_zero, Nat.le_refl, Option.some.injEq, exists_eq_left', true_or, or_true, or_false, false_or, reduceCtorEq, Prod.mk.injEq, Sum.inl.injEq, and_self, false_and, and_false, not_true_eq_false, not_false_eq_true, false_implies, true_implies, sm_r, Int.add_zero, Int.zero_add, wI_wsI, wS_wsI, wR_wsI, wI_wCp, wS_wCp, wR_wCp, Nat.reduceEqDiff, reduceIte, sT_iff, sT_iffC, wIf_ne, ne_eq, tb_X8_nextToLeave, p_X8_canLeave, p_X8_goesAhead, f_X8_canLeave, f_X8_goesAhead, p_X8_nextToLeave, f_X8_nextToLeave, sS_154 hT, sR_154_0 hT, sS_155 hT]
    repeat' (first | assumption | with_reducible refine And.intro ?_ ?_ | intro _)
    all_goals first
      | omega
      | rfl
      | (split <;> omega)
      | (have k9 := ih (by omega)
         (repeat' split at k9) <;> first | exact k9 | omega)
      | (congr 1; omega)
      | grind
      | skip
    )
  refine hZ (fun u => Nat.beq u 5) 40 0 _ _ _ _ _ ?_
  simp only [sm_run, sm_blk, sm_get, sm_ent, sm_ents, sm_wds, sm_wd, sm_nl, sm_pop, sm_back, sm_cases, oK, oLK, oL, oI, oA, oJ, oIs, oAs, oJs, oInc, oAdd, oSub, oMul, oDiv, oRem, oNeg, oAnd, oOr, oShl, oI2c, oI2l, oL2i, oLand, oLor, oLshl, oLshr, oLushr, oLcmp, oDup, oDup2, oPop, oGo, oFg, oEq, oNe, oLt, oGe, oGt, oLe, oEq0, oNe0, oLt0, oGe0, oGt0, oLe0, oSw, oGi, oGr, oPi, oPz, oPr, oLen, oIl, oZl, oCl, oRl, oIst, oZst, oCst, oRst, oCopy, oNew, oNa, oNa2, oObj, oCs, oCv, oCi, oIr, oZr, oVr, Nat.beq, List.getElem?_cons_zero, List.getElem?_cons_succ, List.set_cons_zero, List.set_cons_succ, List.length_cons, List.length_nil, List.nil_append, List.cons_append, List.append_nil, List.replicate_succ, List.replicate_zero, Nat.reduceAdd, Nat.reduceSub, Nat.reduceLT, Nat.reduceLeDiff, Nat.reduceBEq, true_and, and_true, Nat.zero_add, Nat.add_zero, Nat.le_refl, Option.some.injEq, exists_eq_left', true_or, or_true, or_false, false_or, reduceCtorEq, Prod.mk.injEq, Sum.inl.injEq, and_self, false_and, and_false, not_true_eq_false, not_false_eq_true, false_implies, true_implies, sm_r, Int.add_zero, Int.zero_add, wI_wsI, wS_wsI, wR_wsI, wI_wCp, wS_wCp, wR_wCp, Nat.reduceEqDiff, reduceIte, sT_iff, sT_iffC, wIf_ne, ne_eq, tb_X8_nextToLeave, p_X8_canLeave, p_X8_goesAhead, f_X8_canLeave, f_X8_goesAhead, p_X8_nextToLeave, f_X8_nextToLeave]
  repeat' (first | assumption | with_reducible refine And.intro ?_ ?_ | intro _)
  all_goals first
    | omega
    | rfl
    | (split <;> omega)
    | (have k9 := ih (by omega)
       (repeat' split at k9) <;> first | exact k9 | omega)
    | (congr 1; omega)
    | skip

theorem met_X8_nextToLeave (l : Launch) : sm_Met l yX8_nextToLeave cX8_nextToLeave 4 (some .int) 4 0 0 p_X8_nextToLeave f_X8_nextToLeave := sm_met 1 (Or.inr (Or.inl ⟨rfl, rfl⟩)) (by decide +kernel) (sn_X8_nextToLeave l) ok_X8_nextToLeave
end
section
/-! THE REFERENCE: what a minute does -/
def mLv1 (w : sm_W) (x t : Int) : sm_W := wsI (wsI (wsI (wsI (wsI w 164 (8 * x + wI w 161 x) (mReady w x)) 165 (8 * x + wI w 161 x) t) 161 x (sFrom (wI w 161 x) (mWay (wI w 155) x))) 160 x 2) 162 x t
theorem mLv1_at (w : sm_W) (x t : Int) : wI (mLv1 w x t) 155 = wI w 155 := rfl
theorem mLv1_day {w : sm_W} {x t : Int} (h : mDay w) (h0 : 0 ≤ x) (h1 : x < wI w 155 1) (hs : wI w 160 x ≤ 1) (t0 : 0 ≤ t) (t1 : t ≤ 100000) : mDay (mLv1 w x t) := by
  refine ⟨⟨h.1.1, h.1.2⟩, fun y hy0 hy1 => ?_⟩
  have hx := h.2 x h0 h1
  have hy := h.2 y hy0 hy1
  have hq := vOK_sh h.1.2 h0 h1
  have hwp := mWay_pm (wI w 155) x
  simp only [mSh, mLv1, wI_wsI, Nat.reduceEqDiff, false_and, true_and, if_false, sFrom] at *
  by_cases e : y = x
  · subst e
    simp only [if_true]
    rcases hwp with ⟨hw, hlt⟩ | ⟨hw, hlt⟩ <;> rw [hw] <;> simp only [Int.reduceLT, if_true, if_false] <;> omega
  · simp only [e, if_false]
    exact hy
def mSt (w : sm_W) : Int := cntP (fun y => decide (wI w 160 y ≤ 1)) (wI w 155 1)
theorem mLv1_cnt {w : sm_W} {x t : Int} (h0 : 0 ≤ x) (h1 : x < wI w 155 1) (hs : wI w 160 x ≤ 1) : mSt (mLv1 w x t) + 1 = mSt w := by
  unfold mSt
  rw [mLv1_at]
  have := (cntP_upd (p := fun y => decide (wI w 160 y ≤ 1)) (q := fun y => decide (wI (mLv1 w x t) 160 y ≤ 1)) (x := x) (by simpa using hs) (by simp [mLv1, wI_wsI]) (fun y hy => by simp [mLv1, wI_wsI, hy]) h0 (wI w 155 1).toNat).1 (by omega)
  rw [Int.toNat_of_nonneg (by omega)] at this
  exact this
def mLv : Nat → sm_W → Int → sm_W
  | 0, w, _ => w
  | n + 1, w, t => if mNext w t (wI w 155 1) < 0 then w else mLv n (mLv1 w (mNext w t (wI w 155 1)) t) t
theorem mLv_s (n : Nat) (w : sm_W) (t : Int) : mLv (n + 1) w t = if mNext w t (wI w 155 1) < 0 then w else mLv n (mLv1 w (mNext w t (wI w 155 1)) t) t := rfl
def p_X8_leave : List sm_V → sm_W → Prop
  | [.inr (.inl m), .inl t], w => m = 154 ∧ mDay w ∧ 0 ≤ t ∧ t ≤ 100000
  | _, _ => False
def f_X8_leave : sm_F
  | [.inr (.inl m), .inl t], w => (none, mLv 9 w t)
  | _, w => (none, w)
def tb_X8_leave : List (Nat × List sm_O) := [(0, [oA 0, oI 1, oCv 8 30 p_X8_nextToLeave f_X8_nextToLeave 0 0 2, oIs 2, oGo 6]),
  (6, [oI 2, oLt0 91, oA 0, oGr 8 30 11, oK 8, oI 2, oMul, oA 0, oGr 8 30 8, oI 2, oIl, oAdd, oA 0, oI 2, oCv 8 30 p_X8_readyAt f_X8_readyAt 0 0 2, oIst, oA 0, oGr 8 30 12, oK 8, oI 2, oMul, oA 0, oGr 8 30 8, oI 2, oIl, oAdd, oI 1, oIst, oA 0, oGr 8 30 8, oI 2, oA 0, oGr 8 30 8, oI 2, oIl, oA 0, oI 2, oCv 8 30 p_X8_way f_X8_way 0 0 2, oCs p_X8_stretchFrom f_X8_stretchFrom 0 0 2, oIst, oA 0, oGr 8 30 7, oI 2, oK 2, oIst, oA 0, oGr 8 30 9, oI 2, oI 1, oIst, oA 0, oI 1, oCv 8 30 p_X8_nextToLeave f_X8_nextToLeave 0 0 2, oIs 2, oGo 6]),
  (91, [oVr])]
set_option maxRecDepth 100000 in
theorem sb_X8_leave_0 (l : Launch) : sm_SndB l RX8 "leave" cX8_leave 3 0 5 0 [oA 0, oI 1, oCv 8 30 p_X8_nextToLeave f_X8_nextToLeave 0 0 2, oIs 2, oGo 6] := sb_cons (sd_aload_n (by decide +kernel : decode cX8_leave 0 = .ok (.aload_n 0, 1)) rfl) (sb_cons (sd_iload_n (by decide +kernel : decode cX8_leave 1 = .ok (.iload_n 1, 1)) rfl) (sb_cons (sd_callv (n := 1) (met_X8_nextToLeave l) (by decide) (by decide) wm_833 wm_831 wm_10 ⟨by decide +kernel, by decide +kernel, by decide +kernel⟩ kl_8 wm_832 wm_1123 (by decide +kernel : decode cX8_leave 2 = .ok (.invokevirtual 124, 3))) (sb_cons (sd_istore_n (by decide +kernel : decode cX8_leave 5 = .ok (.istore_n 2, 1)) rfl) (sb_cons (sd_fall (x := 0)) sb_nil))))
set_option maxRecDepth 100000 in
theorem sb_X8_leave_6 (l : Launch) : sm_SndB l RX8 "leave" cX8_leave 3 0 5 6 [oI 2, oLt0 91, oA 0, oGr 8 30 11, oK 8, oI 2, oMul, oA 0, oGr 8 30 8, oI 2, oIl, oAdd, oA 0, oI 2, oCv 8 30 p_X8_readyAt f_X8_readyAt 0 0 2, oIst, oA 0, oGr 8 30 12, oK 8, oI 2, oMul, oA 0, oGr 8 30 8, oI 2, oIl, oAdd, oI 1, oIst, oA 0, oGr 8 30 8, oI 2, oA 0, oGr 8 30 8, oI 2, oIl, oA 0, oI 2, oCv 8 30 p_X8_way f_X8_way 0 0 2, oCs p_X8_stretchFrom f_X8_stretchFrom 0 0 2, oIst, oA 0, oGr 8 30 7, oI 2, oK 2, oIst, oA 0, oGr 8 30 9, oI 2, oI 1, oIst, oA 0, oI 1, oCv 8 30 p_X8_nextToLeave f_X8_nextToLeave 0 0 2, oIs 2, oGo 6] := sb_cons (sd_iload_n (by decide +kernel : decode cX8_leave 6 = .ok (.iload_n 2, 1)) rfl) (sb_cons (sd_lt0 (by decide +kernel : decode cX8_leave 7 = .ok (.ifCond .lt 84, 3)) (by decide)) (sb_cons (sd_aload_n (by decide +kernel : decode cX8_leave 10 = .ok (.aload_n 0, 1)) rfl) (sb_cons (sd_getr (k := 11) kl_8 (by decide) rfl wm_684 (by decide +kernel : decode cX8_leave 11 = .ok (.getfield 38, 3))) (sb_cons (sd_bipush (by decide +kernel : decode cX8_leave 14 = .ok (.bipush 8, 2)) ⟨by decide, by decide⟩ (by decide)) (sb_cons (sd_iload_n (by decide +kernel : decode cX8_leave 16 = .ok (.iload_n 2, 1)) rfl) (sb_cons (sd_imul (by decide +kernel : decode cX8_leave 17 = .ok (.imul, 1))) (sb_cons (sd_aload_n (by decide +kernel : decode cX8_leave 18 = .ok (.aload_n 0, 1)) rfl) (sb_cons (sd_getr (k := 8) kl_8 (by decide) rfl wm_681 (by decide +kernel : decode cX8_leave 19 = .ok (.getfield 29, 3))) (sb_cons (sd_iload_n (by decide +kernel : decode cX8_leave 22 = .ok (.iload_n 2, 1)) rfl) (sb_cons (sd_iaload (by decide +kernel : decode cX8_leave 23 = .ok (.iaload, 1))) (sb_cons (sd_iadd (by decide +kernel : decode cX8_leave 24 = .ok (.iadd, 1))) (sb_cons (sd_aload_n (by decide +kernel : decode cX8_leave 25 = .ok (.aload_n 0, 1)) rfl) (sb_cons (sd_iload_n (by decide +kernel : decode cX8_leave 26 = .ok (.iload_n 2, 1)) rfl) (sb_cons (sd_callv (n := 1) (met_X8_readyAt l) (by decide) (by decide) wm_845 wm_843 wm_10 ⟨by decide +kernel, by decide +kernel, by decide +kernel⟩ kl_8 wm_844 wm_1126 (by decide +kernel : decode cX8_leave 27 = .ok (.invokevirtual 99, 3))) (sb_cons (sd_iastore (by decide +kernel : decode cX8_leave 30 = .ok (.iastore, 1))) (sb_cons (sd_aload_n (by decide +kernel : decode cX8_leave 31 = .ok (.aload_n 0, 1)) rfl) (sb_cons (sd_getr (k := 12) kl_8 (by decide) rfl wm_685 (by decide +kernel : decode cX8_leave 32 = .ok (.getfield 41, 3))) (sb_cons (sd_bipush (by decide +kernel : decode cX8_leave 35 = .ok (.bipush 8, 2)) ⟨by decide, by decide⟩ (by decide)) (sb_cons (sd_iload_n (by decide +kernel : decode cX8_leave 37 = .ok (.iload_n 2, 1)) rfl) (sb_cons (sd_imul (by decide +kernel : decode cX8_leave 38 = .ok (.imul, 1))) (sb_cons (sd_aload_n (by decide +kernel : decode cX8_leave 39 = .ok (.aload_n 0, 1)) rfl) (sb_cons (sd_getr (k := 8) kl_8 (by decide) rfl wm_681 (by decide +kernel : decode cX8_leave 40 = .ok (.getfield 29, 3))) (sb_cons (sd_iload_n (by decide +kernel : decode cX8_leave 43 = .ok (.iload_n 2, 1)) rfl) (sb_cons (sd_iaload (by decide +kernel : decode cX8_leave 44 = .ok (.iaload, 1))) (sb_cons (sd_iadd (by decide +kernel : decode cX8_leave 45 = .ok (.iadd, 1))) (sb_cons (sd_iload_n (by decide +kernel : decode cX8_leave 46 = .ok (.iload_n 1, 1)) rfl) (sb_cons (sd_iastore (by decide +kernel : decode cX8_leave 47 = .ok (.iastore, 1))) (sb_cons (sd_aload_n (by decide +kernel : decode cX8_leave 48 = .ok (.aload_n 0, 1)) rfl) (sb_cons (sd_getr (k := 8) kl_8 (by decide) rfl wm_681 (by decide +kernel : decode cX8_leave 49 = .ok (.getfield 29, 3))) (sb_cons (sd_iload_n (by decide +kernel : decode cX8_leave 52 = .ok (.iload_n 2, 1)) rfl) (sb_cons (sd_aload_n (by decide +kernel : decode cX8_leave 53 = .ok (.aload_n 0, 1)) rfl) (sb_cons (sd_getr (k := 8) kl_8 (by decide) rfl wm_681 (by decide +kernel : decode cX8_leave 54 = .ok (.getfield 29, 3))) (sb_cons (sd_iload_n (by decide +kernel : decode cX8_leave 57 = .ok (.iload_n 2, 1)) rfl) (sb_cons (sd_iaload (by decide +kernel : decode cX8_leave 58 = .ok (.iaload, 1))) (sb_cons (sd_aload_n (by decide +kernel : decode cX8_leave 59 = .ok (.aload_n 0, 1)) rfl) (sb_cons (sd_iload_n (by decide +kernel : decode cX8_leave 60 = .ok (.iload_n 2, 1)) rfl) (sb_cons (sd_callv (n := 1) (met_X8_way l) (by decide) (by decide) wm_821 wm_819 wm_10 ⟨by decide +kernel, by decide +kernel, by decide +kernel⟩ kl_8 wm_820 wm_1120 (by decide +kernel : decode cX8_leave 61 = .ok (.invokevirtual 95, 3))) (sb_cons (sd_calls (n := 2) (met_X8_stretchFrom l) (by decide) (by decide) wm_849 wm_847 wm_10 ⟨by decide +kernel, by decide +kernel, by decide +kernel⟩ wm_848 (by decide +kernel : decode cX8_leave 64 = .ok (.invokestatic 106, 3))) (sb_cons (sd_iastore (by decide +kernel : decode cX8_leave 67 = .ok (.iastore, 1))) (sb_cons (sd_aload_n (by decide +kernel : decode cX8_leave 68 = .ok (.aload_n 0, 1)) rfl) (sb_cons (sd_getr (k := 7) kl_8 (by decide) rfl wm_680 (by decide +kernel : decode cX8_leave 69 = .ok (.getfield 26, 3))) (sb_cons (sd_iload_n (by decide +kernel : decode cX8_leave 72 = .ok (.iload_n 2, 1)) rfl) (sb_cons (sd_iconst (by decide +kernel : decode cX8_leave 73 = .ok (.iconst 2, 1)) ⟨by decide, by decide⟩) (sb_cons (sd_iastore (by decide +kernel : decode cX8_leave 74 = .ok (.iastore, 1))) (sb_cons (sd_aload_n (by decide +kernel : decode cX8_leave 75 = .ok (.aload_n 0, 1)) rfl) (sb_cons (sd_getr (k := 9) kl_8 (by decide) rfl wm_682 (by decide +kernel : decode cX8_leave 76 = .ok (.getfield 32, 3))) (sb_cons (sd_iload_n (by decide +kernel : decode cX8_leave 79 = .ok (.iload_n 2, 1)) rfl) (sb_cons (sd_iload_n (by decide +kernel : decode cX8_leave 80 = .ok (.iload_n 1, 1)) rfl) (sb_cons (sd_iastore (by decide +kernel : decode cX8_leave 81 = .ok (.iastore, 1))) (sb_cons (sd_aload_n (by decide +kernel : decode cX8_leave 82 = .ok (.aload_n 0, 1)) rfl) (sb_cons (sd_iload_n (by decide +kernel : decode cX8_leave 83 = .ok (.iload_n 1, 1)) rfl) (sb_cons (sd_callv (n := 1) (met_X8_nextToLeave l) (by decide) (by decide) wm_833 wm_831 wm_10 ⟨by decide +kernel, by decide +kernel, by decide +kernel⟩ kl_8 wm_832 wm_1123 (by decide +kernel : decode cX8_leave 84 = .ok (.invokevirtual 124, 3))) (sb_cons (sd_istore_n (by decide +kernel : decode cX8_leave 87 = .ok (.istore_n 2, 1)) rfl) (sb_cons (sd_goto (x := 0) (by decide +kernel : decode cX8_leave 88 = .ok (.goto (-82), 3)) (by decide)) sb_nil))))))))))))))))))))))))))))))))))))))))))))))))))))))
set_option maxRecDepth 100000 in
theorem sb_X8_leave_91 (l : Launch) : sm_SndB l RX8 "leave" cX8_leave 3 0 5 91 [oVr] := sb_cons (sd_return (x := 0) rfl (by decide +kernel : decode cX8_leave 91 = .ok (.return_, 1))) sb_nil
theorem sn_X8_leave (l : Launch) : sm_SndT l RX8 "leave" cX8_leave 3 0 5 tb_X8_leave := st_cons (sb_X8_leave_0 l) (st_cons (sb_X8_leave_6 l) (st_cons (sb_X8_leave_91 l) (st_nil)))
set_option maxRecDepth 100000 in
set_option maxHeartbeats 4000000 in
theorem ok_X8_leave : sm_Ok tb_X8_leave 3 0 0 p_X8_leave f_X8_leave := by
  intro as w hp ha hw
  match as, hp with
  | [.inr (.inl m), .inl t], hp =>
  refine ⟨Nat.le_of_ble_eq_true rfl, fun Z hZ => ?_⟩
  obtain ⟨rfl, hD, t0, t1⟩ := hp
  have hl := sm_loopM (S := Nat × sm_W) Z 6 (fun s => s.1) (fun s => mDay s.2 ∧ mSt s.2 < s.1 ∧ mLv s.1 s.2 t = mLv 9 w t) (fun s => [some (.inr (.inl 154)), some (.inl t), some (.inl (mNext s.2 t (wI s.2 155 1)))]) (fun s => s.2) 0 0 (fun s hI ih => by
    obtain ⟨n, u⟩ := s
    dsimp only at hI ih ⊢
    obtain ⟨hU, hc, he⟩ := hI
    have hv := hU.1.2
    have hT := hU.1.1
    have hO := hU.1
    have hm := vOK_many hv
    have hn := mNext_in u t (wI u 155 1) hm.1
    have hc0 := cntP_le (fun y => decide (wI u 160 y ≤ 1)) (wI u 155 1) hm.1
    cases n with
    | zero => exfalso; unfold mSt at hc; omega
    | succ n =>
      have hcan := fun h => mCan_pre (w := u) (x := mNext u t (wI u 155 1)) (t := t) h
      generalize hx : mNext u t (wI u 155 1) = x at *
      rw [mLv_s n u t, hx] at he
      have ih := fun hx0 : 0 ≤ x => ih (n, mLv1 u x t) ⟨mLv1_day hU hx0 (by omega) (by omega) t0 t1, by
        have := mLv1_cnt (w := u) (x := x) (t := t) hx0 (by omega) (by omega)
        dsimp only
        omega, by rw [← he, if_neg (by omega)]⟩ (Nat.lt_succ_self n)
      have hD1 := fun hx0 : 0 ≤ x => mLv1_day (t := t) hU hx0 (by omega) (by omega) t0 t1
      have hs := fun hx0 : 0 ≤ x => hU.2 x hx0 (by omega)
      simp only [mSh] at hs
      unfold mLv1 at ih hD1
      have hwp := mWay_pm (wI u 155) x
      refine hZ (fun u => Nat.beq u 6) 14 6 _ _ _ _ _ ?_
      simp only [sm_run, sm_blk, sm_get, sm_ent, sm_ents, sm_wds, sm_wd, sm_nl, sm_pop, sm_back, sm_cases, oK, oLK, oL, oI, oA, oJ, oIs, oAs, oJs, oInc, oAdd, oSub, oMul, oDiv, oRem, oNeg, oAnd, oOr, oShl, oI2c, oI2l, oL2i, oLand, oLor, oLshl, oLshr, oLushr, oLcmp, oDup, oDup2, oPop, oGo, oFg, oEq, oNe, oLt, oGe, oGt, oLe, oEq0, oNe0, oLt0, oGe0, oGt0, oLe0, oSw, oGi, oGr, oPi, oPz, oPr, oLen, oIl, oZl, oCl, oRl, oIst, oZst, oCst, oRst, oCopy, oNew, oNa, oNa2, oObj, oCs, oCv, oCi, oIr, oZr, oVr, Nat.beq, List.getElem?_cons_zero, List.getElem?_cons_succ, List.set_cons_zero, List.set_cons_succ, List.length_cons, List.length_nil, List.nil_append, List.cons_append, List.append_nil, List.replicate_succ, List.replicate_zero, Nat.reduceAdd, Nat.reduceSub, Nat.reduceLT, Nat.reduceLeDiff, Nat.reduceBEq, true_and, and_true, Nat.zero_add, Nat.add_zero, Nat.le_refl, Option.some.injEq, exists_eq_left', true_or, or_true, or_false, false_or, reduceCtorEq, Prod.mk.injEq, Sum.inl.injEq, and_self, false_and, and_false, not_true_eq_false, not_false_eq_true, false_implies, true_implies, sm_r, Int.add_zero, Int.zero_add, wI_wsI, wS_wsI, wR_wsI, wI_wCp, wS_wCp, wR_wCp, Nat.reduceEqDiff, reduceIte, sT_iff, sT_iffC, wIf_ne, ne_eq, Bool.false_or, Bool.true_or, Bool.or_false, Bool.or_true, Bool.or_self, tb_X8_leave, p_X8_nextToLeave, p_X8_readyAt, p_X8_stretchFrom, p_X8_way, f_X8_nextToLeave, f_X8_readyAt, f_X8_stretchFrom, f_X8_way, p_X8_leave, f_X8_leave, sS_154 hT, sR_154_7 hT, sS_160 hT, sR_154_8 hT, sS_161 hT, sR_154_9 hT, sS_162 hT, sR_154_11 hT, sS_164 hT, sR_154_12 hT, sS_165 hT, hO, hT]
      repeat' (first | assumption | with_reducible refine And.intro ?_ ?_ | intro _)
      all_goals first
        | omega
        | rfl
        | (split <;> omega)
        | (have k9 := ih (by omega)
           (repeat' split at k9) <;> first | exact k9 | omega)
        | (have k9 := ih2 (by omega)
           (repeat' split at k9) <;> first | exact k9 | omega)
        | exact he (by omega)
        | (congr 1; omega)
        | (rw [if_pos (by omega)] at he; exact he)
        | exact hD1 (by omega)
        | exact hD2 (by omega)
        | skip
    )
  have h1 := hl (9, w) ⟨hD, by have := cntP_le (fun y => decide (wI w 160 y ≤ 1)) (wI w 155 1) (vOK_many hD.1.2).1; have := (vOK_many hD.1.2).2; unfold mSt; dsimp only; omega, rfl⟩
  dsimp only at h1
  refine hZ (fun u => Nat.beq u 6) 14 0 _ _ _ _ _ ?_
  simp only [sm_run, sm_blk, sm_get, sm_ent, sm_ents, sm_wds, sm_wd, sm_nl, sm_pop, sm_back, sm_cases, oK, oLK, oL, oI, oA, oJ, oIs, oAs, oJs, oInc, oAdd, oSub, oMul, oDiv, oRem, oNeg, oAnd, oOr, oShl, oI2c, oI2l, oL2i, oLand, oLor, oLshl, oLshr, oLushr, oLcmp, oDup, oDup2, oPop, oGo, oFg, oEq, oNe, oLt, oGe, oGt, oLe, oEq0, oNe0, oLt0, oGe0, oGt0, oLe0, oSw, oGi, oGr, oPi, oPz, oPr, oLen, oIl, oZl, oCl, oRl, oIst, oZst, oCst, oRst, oCopy, oNew, oNa, oNa2, oObj, oCs, oCv, oCi, oIr, oZr, oVr, Nat.beq, List.getElem?_cons_zero, List.getElem?_cons_succ, List.set_cons_zero, List.set_cons_succ, List.length_cons, List.length_nil, List.nil_append, List.cons_append, List.append_nil, List.replicate_succ, List.replicate_zero, Nat.reduceAdd, Nat.reduceSub, Nat.reduceLT, Nat.reduceLeDiff, Nat.reduceBEq, true_and, and_true, Nat.zero_add, Nat.add_zero, Nat.le_refl, Option.some.injEq, exists_eq_left', true_or, or_true, or_false, false_or, reduceCtorEq, Prod.mk.injEq, Sum.inl.injEq, and_self, false_and, and_false, not_true_eq_false, not_false_eq_true, false_implies, true_implies, sm_r, Int.add_zero, Int.zero_add, wI_wsI, wS_wsI, wR_wsI, wI_wCp, wS_wCp, wR_wCp, Nat.reduceEqDiff, reduceIte, sT_iff, sT_iffC, wIf_ne, ne_eq, Bool.false_or, Bool.true_or, Bool.or_false, Bool.or_true, Bool.or_self, tb_X8_leave, p_X8_nextToLeave, p_X8_readyAt, p_X8_stretchFrom, p_X8_way, f_X8_nextToLeave, f_X8_readyAt, f_X8_stretchFrom, f_X8_way, p_X8_leave, f_X8_leave, sS_154 hD.1.1]
  repeat' (first | assumption | with_reducible refine And.intro ?_ ?_ | intro _)
  all_goals first
    | omega
    | rfl
    | (split <;> omega)
    | (have k9 := ih (by omega)
       (repeat' split at k9) <;> first | exact k9 | omega)
    | (have k9 := ih2 (by omega)
       (repeat' split at k9) <;> first | exact k9 | omega)
    | exact he (by omega)
    | (congr 1; omega)
    | (rw [if_pos (by omega)] at he; exact he)
    | exact hD1 (by omega)
    | exact hD2 (by omega)
    | skip
theorem met_X8_leave (l : Launch) : sm_Met l yX8_leave cX8_leave 3 none 5 0 0 p_X8_leave f_X8_leave := sm_met 0 (Or.inl ⟨rfl, rfl⟩) (by decide +kernel) (sn_X8_leave l) ok_X8_leave
theorem mLv_at (n : Nat) (w : sm_W) (t : Int) : wI (mLv n w t) 155 = wI w 155 := by
  induction n generalizing w with
  | zero => rfl
  | succ n ih =>
    rw [mLv_s]
    split
    · rfl
    · rw [ih]; rfl
theorem mLv_day {w : sm_W} {t : Int} (h : mDay w) (t0 : 0 ≤ t) (t1 : t ≤ 100000) (n : Nat) : mDay (mLv n w t) := by
  induction n generalizing w with
  | zero => exact h
  | succ n ih =>
    rw [mLv_s]
    have hn := mNext_in w t (wI w 155 1) (vOK_many h.1.2).1
    split
    · exact h
    · next hx =>
      have hc := mCan_pre (w := w) (x := mNext w t (wI w 155 1)) (t := t) (by omega)
      exact ih (mLv1_day h (by omega) (by omega) hc.1 t0 t1)
/-- a shuttle comes into a station -/
def mCm1 (t x : Int) (w : sm_W) : sm_W := if wI w 160 x = 2 ∧ t - wI w 162 x = wI w 155 (10 + wI w 161 x) then (if 0 < mWay (wI w 155) x then wsI (wsI (wsI (wsI w 163 (8 * x + (wI w 161 x + 1)) t) 160 x (if wI w 161 x + 1 = wI w 155 (17 + 5 * x + 1) then 3 else 1)) 161 x (wI w 161 x + 1)) 162 x t else wsI (wsI (wsI (wsI w 163 (8 * x + wI w 161 x) t) 160 x (if wI w 161 x = wI w 155 (17 + 5 * x + 1) then 3 else 1)) 161 x (wI w 161 x)) 162 x t) else w
theorem mCm1_at (t x : Int) (w : sm_W) : wI (mCm1 t x w) 155 = wI w 155 := by
  unfold mCm1
  split
  · split <;> rfl
  · rfl
theorem mCm1_day {w : sm_W} {x t : Int} (h : mDay w) (h0 : 0 ≤ x) (h1 : x < wI w 155 1) (t0 : 0 ≤ t) (t1 : t ≤ 100000) : mDay (mCm1 t x w) := by
  have hT : sT (mCm1 t x w) := by
    unfold mCm1
    split
    · split <;> exact h.1.1
    · exact h.1.1
  refine ⟨⟨hT, by rw [mCm1_at]; exact h.1.2⟩, fun y hy0 hy1 => ?_⟩
  rw [mCm1_at] at hy1
  have hx := h.2 x h0 h1
  have hy := h.2 y hy0 hy1
  have hq := vOK_sh h.1.2 h0 h1
  have hwp := mWay_pm (wI w 155) x
  unfold mSh
  rw [mCm1_at]
  unfold mCm1
  simp only [mSh] at hx hy
  by_cases e : y = x
  · subst e
    split
    · split <;> simp only [wI_wsI, Nat.reduceEqDiff, false_and, true_and, if_false, if_true] <;> split <;> omega
    · exact hx
  · split
    · split <;> simp only [wI_wsI, Nat.reduceEqDiff, false_and, true_and, if_false, e] <;> exact hy
    · exact hy
def mCome (w : sm_W) (t : Int) : Int → sm_W := itI (mCm1 t) w
theorem mCome_inv {w : sm_W} {t : Int} (h : mDay w) (t0 : 0 ≤ t) (t1 : t ≤ 100000) (n : Int) (h0 : 0 ≤ n) (hn : n ≤ wI w 155 1) : mDay (mCome w t n) ∧ wI (mCome w t n) 155 = wI w 155 := by
  refine itI_ind (fun i r => mDay r ∧ wI r 155 = wI w 155) n ⟨h, rfl⟩ (fun i r i0 i1 hr => ⟨mCm1_day hr.1 i0 (by rw [hr.2]; omega) t0 t1, by rw [mCm1_at, hr.2]⟩) n h0 (Int.le_refl _)
def p_X8_come : List sm_V → sm_W → Prop
  | [.inr (.inl m), .inl t], w => m = 154 ∧ mDay w ∧ 0 ≤ t ∧ t ≤ 100000
  | _, _ => False
def f_X8_come : sm_F
  | [.inr (.inl m), .inl t], w => (none, mCome w t (wI w 155 1))
  | _, w => (none, w)
def tb_X8_come : List (Nat × List sm_O) := [(0, [oK 0, oIs 2, oFg 3, oGo 2]),
  (2, [oI 2, oA 0, oGr 8 30 0, oK 1, oIl, oGe 126, oA 0, oGr 8 30 7, oI 2, oIl, oK 2, oNe 120, oI 1, oA 0, oGr 8 30 9, oI 2, oIl, oSub, oA 0, oGr 8 30 0, oK 10, oA 0, oGr 8 30 8, oI 2, oIl, oAdd, oIl, oNe 120, oA 0, oI 2, oCv 8 30 p_X8_way f_X8_way 0 0 2, oLe0 66, oA 0, oGr 8 30 8, oI 2, oIl, oK 1, oAdd, oGo 72]),
  (66, [oA 0, oGr 8 30 8, oI 2, oIl, oGo 72]),
  (72, [oIs 3, oA 0, oGr 8 30 10, oK 8, oI 2, oMul, oI 3, oAdd, oI 1, oIst, oA 0, oGr 8 30 7, oI 2, oI 3, oA 0, oI 2, oK 1, oCv 8 30 p_X8_of f_X8_of 0 0 3, oNe 104, oK 3, oGo 105]),
  (104, [oK 1, oGo 105]),
  (105, [oIst, oA 0, oGr 8 30 8, oI 2, oI 3, oIst, oA 0, oGr 8 30 9, oI 2, oI 1, oIst, oGo 120]),
  (120, [oInc 2 1, oFg 3, oGo 2]),
  (126, [oVr])]
set_option maxRecDepth 100000 in
theorem sb_X8_come_0 (l : Launch) : sm_SndB l RX8 "come" cX8_come 4 0 2 0 [oK 0, oIs 2, oFg 3, oGo 2] := sb_cons (sd_iconst (by decide +kernel : decode cX8_come 0 = .ok (.iconst 0, 1)) ⟨by decide, by decide⟩) (sb_cons (sd_istore_n (by decide +kernel : decode cX8_come 1 = .ok (.istore_n 2, 1)) rfl) (sb_cons (sd_fg) (sb_cons (sd_fall (x := 0)) sb_nil)))
set_option maxRecDepth 100000 in
theorem sb_X8_come_2 (l : Launch) : sm_SndB l RX8 "come" cX8_come 4 0 2 2 [oI 2, oA 0, oGr 8 30 0, oK 1, oIl, oGe 126, oA 0, oGr 8 30 7, oI 2, oIl, oK 2, oNe 120, oI 1, oA 0, oGr 8 30 9, oI 2, oIl, oSub, oA 0, oGr 8 30 0, oK 10, oA 0, oGr 8 30 8, oI 2, oIl, oAdd, oIl, oNe 120, oA 0, oI 2, oCv 8 30 p_X8_way f_X8_way 0 0 2, oLe0 66, oA 0, oGr 8 30 8, oI 2, oIl, oK 1, oAdd, oGo 72] := sb_cons (sd_iload_n (by decide +kernel : decode cX8_come 2 = .ok (.iload_n 2, 1)) rfl) (sb_cons (sd_aload_n (by decide +kernel : decode cX8_come 3 = .ok (.aload_n 0, 1)) rfl) (sb_cons (sd_getr (k := 0) kl_8 (by decide) rfl wm_673 (by decide +kernel : decode cX8_come 4 = .ok (.getfield 7, 3))) (sb_cons (sd_iconst (by decide +kernel : decode cX8_come 7 = .ok (.iconst 1, 1)) ⟨by decide, by decide⟩) (sb_cons (sd_iaload (by decide +kernel : decode cX8_come 8 = .ok (.iaload, 1))) (sb_cons (sd_ge (by decide +kernel : decode cX8_come 9 = .ok (.if_icmp .ge 117, 3)) (by decide)) (sb_cons (sd_aload_n (by decide +kernel : decode cX8_come 12 = .ok (.aload_n 0, 1)) rfl) (sb_cons (sd_getr (k := 7) kl_8 (by decide) rfl wm_680 (by decide +kernel : decode cX8_come 13 = .ok (.getfield 26, 3))) (sb_cons (sd_iload_n (by decide +kernel : decode cX8_come 16 = .ok (.iload_n 2, 1)) rfl) (sb_cons (sd_iaload (by decide +kernel : decode cX8_come 17 = .ok (.iaload, 1))) (sb_cons (sd_iconst (by decide +kernel : decode cX8_come 18 = .ok (.iconst 2, 1)) ⟨by decide, by decide⟩) (sb_cons (sd_ne (by decide +kernel : decode cX8_come 19 = .ok (.if_icmp .ne 101, 3)) (by decide)) (sb_cons (sd_iload_n (by decide +kernel : decode cX8_come 22 = .ok (.iload_n 1, 1)) rfl) (sb_cons (sd_aload_n (by decide +kernel : decode cX8_come 23 = .ok (.aload_n 0, 1)) rfl) (sb_cons (sd_getr (k := 9) kl_8 (by decide) rfl wm_682 (by decide +kernel : decode cX8_come 24 = .ok (.getfield 32, 3))) (sb_cons (sd_iload_n (by decide +kernel : decode cX8_come 27 = .ok (.iload_n 2, 1)) rfl) (sb_cons (sd_iaload (by decide +kernel : decode cX8_come 28 = .ok (.iaload, 1))) (sb_cons (sd_isub (by decide +kernel : decode cX8_come 29 = .ok (.isub, 1))) (sb_cons (sd_aload_n (by decide +kernel : decode cX8_come 30 = .ok (.aload_n 0, 1)) rfl) (sb_cons (sd_getr (k := 0) kl_8 (by decide) rfl wm_673 (by decide +kernel : decode cX8_come 31 = .ok (.getfield 7, 3))) (sb_cons (sd_bipush (by decide +kernel : decode cX8_come 34 = .ok (.bipush 10, 2)) ⟨by decide, by decide⟩ (by decide)) (sb_cons (sd_aload_n (by decide +kernel : decode cX8_come 36 = .ok (.aload_n 0, 1)) rfl) (sb_cons (sd_getr (k := 8) kl_8 (by decide) rfl wm_681 (by decide +kernel : decode cX8_come 37 = .ok (.getfield 29, 3))) (sb_cons (sd_iload_n (by decide +kernel : decode cX8_come 40 = .ok (.iload_n 2, 1)) rfl) (sb_cons (sd_iaload (by decide +kernel : decode cX8_come 41 = .ok (.iaload, 1))) (sb_cons (sd_iadd (by decide +kernel : decode cX8_come 42 = .ok (.iadd, 1))) (sb_cons (sd_iaload (by decide +kernel : decode cX8_come 43 = .ok (.iaload, 1))) (sb_cons (sd_ne (by decide +kernel : decode cX8_come 44 = .ok (.if_icmp .ne 76, 3)) (by decide)) (sb_cons (sd_aload_n (by decide +kernel : decode cX8_come 47 = .ok (.aload_n 0, 1)) rfl) (sb_cons (sd_iload_n (by decide +kernel : decode cX8_come 48 = .ok (.iload_n 2, 1)) rfl) (sb_cons (sd_callv (n := 1) (met_X8_way l) (by decide) (by decide) wm_821 wm_819 wm_10 ⟨by decide +kernel, by decide +kernel, by decide +kernel⟩ kl_8 wm_820 wm_1120 (by decide +kernel : decode cX8_come 49 = .ok (.invokevirtual 95, 3))) (sb_cons (sd_le0 (by decide +kernel : decode cX8_come 52 = .ok (.ifCond .le 14, 3)) (by decide)) (sb_cons (sd_aload_n (by decide +kernel : decode cX8_come 55 = .ok (.aload_n 0, 1)) rfl) (sb_cons (sd_getr (k := 8) kl_8 (by decide) rfl wm_681 (by decide +kernel : decode cX8_come 56 = .ok (.getfield 29, 3))) (sb_cons (sd_iload_n (by decide +kernel : decode cX8_come 59 = .ok (.iload_n 2, 1)) rfl) (sb_cons (sd_iaload (by decide +kernel : decode cX8_come 60 = .ok (.iaload, 1))) (sb_cons (sd_iconst (by decide +kernel : decode cX8_come 61 = .ok (.iconst 1, 1)) ⟨by decide, by decide⟩) (sb_cons (sd_iadd (by decide +kernel : decode cX8_come 62 = .ok (.iadd, 1))) (sb_cons (sd_goto (x := 0) (by decide +kernel : decode cX8_come 63 = .ok (.goto 9, 3)) (by decide)) sb_nil))))))))))))))))))))))))))))))))))))))
set_option maxRecDepth 100000 in
theorem sb_X8_come_66 (l : Launch) : sm_SndB l RX8 "come" cX8_come 4 0 2 66 [oA 0, oGr 8 30 8, oI 2, oIl, oGo 72] := sb_cons (sd_aload_n (by decide +kernel : decode cX8_come 66 = .ok (.aload_n 0, 1)) rfl) (sb_cons (sd_getr (k := 8) kl_8 (by decide) rfl wm_681 (by decide +kernel : decode cX8_come 67 = .ok (.getfield 29, 3))) (sb_cons (sd_iload_n (by decide +kernel : decode cX8_come 70 = .ok (.iload_n 2, 1)) rfl) (sb_cons (sd_iaload (by decide +kernel : decode cX8_come 71 = .ok (.iaload, 1))) (sb_cons (sd_fall (x := 0)) sb_nil))))
set_option maxRecDepth 100000 in
theorem sb_X8_come_72 (l : Launch) : sm_SndB l RX8 "come" cX8_come 4 0 2 72 [oIs 3, oA 0, oGr 8 30 10, oK 8, oI 2, oMul, oI 3, oAdd, oI 1, oIst, oA 0, oGr 8 30 7, oI 2, oI 3, oA 0, oI 2, oK 1, oCv 8 30 p_X8_of f_X8_of 0 0 3, oNe 104, oK 3, oGo 105] := sb_cons (sd_istore_n (by decide +kernel : decode cX8_come 72 = .ok (.istore_n 3, 1)) rfl) (sb_cons (sd_aload_n (by decide +kernel : decode cX8_come 73 = .ok (.aload_n 0, 1)) rfl) (sb_cons (sd_getr (k := 10) kl_8 (by decide) rfl wm_683 (by decide +kernel : decode cX8_come 74 = .ok (.getfield 35, 3))) (sb_cons (sd_bipush (by decide +kernel : decode cX8_come 77 = .ok (.bipush 8, 2)) ⟨by decide, by decide⟩ (by decide)) (sb_cons (sd_iload_n (by decide +kernel : decode cX8_come 79 = .ok (.iload_n 2, 1)) rfl) (sb_cons (sd_imul (by decide +kernel : decode cX8_come 80 = .ok (.imul, 1))) (sb_cons (sd_iload_n (by decide +kernel : decode cX8_come 81 = .ok (.iload_n 3, 1)) rfl) (sb_cons (sd_iadd (by decide +kernel : decode cX8_come 82 = .ok (.iadd, 1))) (sb_cons (sd_iload_n (by decide +kernel : decode cX8_come 83 = .ok (.iload_n 1, 1)) rfl) (sb_cons (sd_iastore (by decide +kernel : decode cX8_come 84 = .ok (.iastore, 1))) (sb_cons (sd_aload_n (by decide +kernel : decode cX8_come 85 = .ok (.aload_n 0, 1)) rfl) (sb_cons (sd_getr (k := 7) kl_8 (by decide) rfl wm_680 (by decide +kernel : decode cX8_come 86 = .ok (.getfield 26, 3))) (sb_cons (sd_iload_n (by decide +kernel : decode cX8_come 89 = .ok (.iload_n 2, 1)) rfl) (sb_cons (sd_iload_n (by decide +kernel : decode cX8_come 90 = .ok (.iload_n 3, 1)) rfl) (sb_cons (sd_aload_n (by decide +kernel : decode cX8_come 91 = .ok (.aload_n 0, 1)) rfl) (sb_cons (sd_iload_n (by decide +kernel : decode cX8_come 92 = .ok (.iload_n 2, 1)) rfl) (sb_cons (sd_iconst (by decide +kernel : decode cX8_come 93 = .ok (.iconst 1, 1)) ⟨by decide, by decide⟩) (sb_cons (sd_callv (n := 2) (met_X8_of l) (by decide) (by decide) wm_778 wm_776 wm_10 ⟨by decide +kernel, by decide +kernel, by decide +kernel⟩ kl_8 wm_777 wm_1113 (by decide +kernel : decode cX8_come 94 = .ok (.invokevirtual 78, 3))) (sb_cons (sd_ne (by decide +kernel : decode cX8_come 97 = .ok (.if_icmp .ne 7, 3)) (by decide)) (sb_cons (sd_iconst (by decide +kernel : decode cX8_come 100 = .ok (.iconst 3, 1)) ⟨by decide, by decide⟩) (sb_cons (sd_goto (x := 0) (by decide +kernel : decode cX8_come 101 = .ok (.goto 4, 3)) (by decide)) sb_nil))))))))))))))))))))
set_option maxRecDepth 100000 in
theorem sb_X8_come_104 (l : Launch) : sm_SndB l RX8 "come" cX8_come 4 0 2 104 [oK 1, oGo 105] := sb_cons (sd_iconst (by decide +kernel : decode cX8_come 104 = .ok (.iconst 1, 1)) ⟨by decide, by decide⟩) (sb_cons (sd_fall (x := 0)) sb_nil)
set_option maxRecDepth 100000 in
theorem sb_X8_come_105 (l : Launch) : sm_SndB l RX8 "come" cX8_come 4 0 2 105 [oIst, oA 0, oGr 8 30 8, oI 2, oI 3, oIst, oA 0, oGr 8 30 9, oI 2, oI 1, oIst, oGo 120] := sb_cons (sd_iastore (by decide +kernel : decode cX8_come 105 = .ok (.iastore, 1))) (sb_cons (sd_aload_n (by decide +kernel : decode cX8_come 106 = .ok (.aload_n 0, 1)) rfl) (sb_cons (sd_getr (k := 8) kl_8 (by decide) rfl wm_681 (by decide +kernel : decode cX8_come 107 = .ok (.getfield 29, 3))) (sb_cons (sd_iload_n (by decide +kernel : decode cX8_come 110 = .ok (.iload_n 2, 1)) rfl) (sb_cons (sd_iload_n (by decide +kernel : decode cX8_come 111 = .ok (.iload_n 3, 1)) rfl) (sb_cons (sd_iastore (by decide +kernel : decode cX8_come 112 = .ok (.iastore, 1))) (sb_cons (sd_aload_n (by decide +kernel : decode cX8_come 113 = .ok (.aload_n 0, 1)) rfl) (sb_cons (sd_getr (k := 9) kl_8 (by decide) rfl wm_682 (by decide +kernel : decode cX8_come 114 = .ok (.getfield 32, 3))) (sb_cons (sd_iload_n (by decide +kernel : decode cX8_come 117 = .ok (.iload_n 2, 1)) rfl) (sb_cons (sd_iload_n (by decide +kernel : decode cX8_come 118 = .ok (.iload_n 1, 1)) rfl) (sb_cons (sd_iastore (by decide +kernel : decode cX8_come 119 = .ok (.iastore, 1))) (sb_cons (sd_fall (x := 0)) sb_nil)))))))))))
set_option maxRecDepth 100000 in
theorem sb_X8_come_120 (l : Launch) : sm_SndB l RX8 "come" cX8_come 4 0 2 120 [oInc 2 1, oFg 3, oGo 2] := sb_cons (sd_iinc (by decide +kernel : decode cX8_come 120 = .ok (.iinc 2 1, 3))) (sb_cons (sd_fg) (sb_cons (sd_goto (x := 0) (by decide +kernel : decode cX8_come 123 = .ok (.goto (-121), 3)) (by decide)) sb_nil))
set_option maxRecDepth 100000 in
theorem sb_X8_come_126 (l : Launch) : sm_SndB l RX8 "come" cX8_come 4 0 2 126 [oVr] := sb_cons (sd_return (x := 0) rfl (by decide +kernel : decode cX8_come 126 = .ok (.return_, 1))) sb_nil
theorem sn_X8_come (l : Launch) : sm_SndT l RX8 "come" cX8_come 4 0 2 tb_X8_come := st_cons (sb_X8_come_0 l) (st_cons (sb_X8_come_2 l) (st_cons (sb_X8_come_66 l) (st_cons (sb_X8_come_72 l) (st_cons (sb_X8_come_104 l) (st_cons (sb_X8_come_105 l) (st_cons (sb_X8_come_120 l) (st_cons (sb_X8_come_126 l) (st_nil))))))))
set_option maxRecDepth 100000 in
set_option maxHeartbeats 4000000 in
theorem ok_X8_come : sm_Ok tb_X8_come 4 0 0 p_X8_come f_X8_come := by
  intro as w hp ha hw
  match as, hp with
  | [.inr (.inl m), .inl t], hp =>
  refine ⟨Nat.le_of_ble_eq_true rfl, fun Z hZ => ?_⟩
  obtain ⟨rfl, hD, t0, t1⟩ := hp
  have hm := vOK_many hD.1.2
  have hl := sm_loopI Z 2 0 (wI w 155 1) (fun i => [some (.inr (.inl 154)), some (.inl t), some (.inl i), none]) (fun i => mCome w t i) 0 0 hm.1 (fun i h0 h1 ih => by
    have hI := mCome_inv hD t0 t1 i h0 h1
    have hu : mCome w t (i + 1) = mCm1 t i (mCome w t i) := itI_s _ _ h0
    rw [hu] at ih
    have he : i = wI w 155 1 → mCome w t i = mCome w t (wI w 155 1) := fun e => by rw [← e]
    generalize mCome w t i = u at *
    obtain ⟨hU, hat⟩ := hI
    have hat1 : wI u 155 1 = wI w 155 1 := by rw [hat]
    rw [← hat] at h1 ih
    have hT := hU.1.1
    have hs := fun hlt => hU.2 i h0 hlt
    have hm2 := vOK_many hU.1.2
    have hq := fun hlt => vOK_sh hU.1.2 h0 hlt
    simp only [mSh] at hs
    have hwp := mWay_pm (wI u 155) i
    unfold mCm1 at ih
    refine hZ (fun u => Nat.beq u 2) 14 2 _ _ _ _ _ ?_
    simp only [sm_run, sm_blk, sm_get, sm_ent, sm_ents, sm_wds, sm_wd, sm_nl, sm_pop, sm_back, sm_cases, oK, oLK, oL, oI, oA, oJ, oIs, oAs, oJs, oInc, oAdd, oSub, oMul, oDiv, oRem, oNeg, oAnd, oOr, oShl, oI2c, oI2l, oL2i, oLand, oLor, oLshl, oLshr, oLushr, oLcmp, oDup, oDup2, oPop, oGo, oFg, oEq, oNe, oLt, oGe, oGt, oLe, oEq0, oNe0, oLt0, oGe0, oGt0, oLe0, oSw, oGi, oGr, oPi, oPz, oPr, oLen, oIl, oZl, oCl, oRl, oIst, oZst, oCst, oRst, oCopy, oNew, oNa, oNa2, oObj, oCs, oCv, oCi, oIr, oZr, oVr, Nat.beq, List.getElem?_cons_zero, List.getElem?_cons_succ, List.set_cons_zero, List.set_cons_succ, List.length_cons, List.length_nil, List.nil_append, List.cons_append, List.append_nil, List.replicate_succ, List.replicate_zero, Nat.reduceAdd, Nat.reduceSub, Nat.reduceLT, Nat.reduceLeDiff, Nat.reduceBEq, true_and, and_true, Nat.zero_add, Nat.add_zero, Nat.le_refl, Option.some.injEq, exists_eq_left', true_or, or_true, or_false, false_or, reduceCtorEq, Prod.mk.injEq, Sum.inl.injEq, and_self, false_and, and_false, not_true_eq_false, not_false_eq_true, false_implies, true_implies, sm_r, Int.add_zero, Int.zero_add, wI_wsI, wS_wsI, wR_wsI, wI_wCp, wS_wCp, wR_wCp, Nat.reduceEqDiff, reduceIte, sT_iff, sT_iffC, wIf_ne, ne_eq, Bool.false_or, Bool.true_or, Bool.or_false, Bool.or_true, Bool.or_self, tb_X8_come, p_X8_of, p_X8_way, f_X8_of, f_X8_way, p_X8_come, f_X8_come, sS_154 hT, sR_154_0 hT, sS_155 hT, sR_154_7 hT, sS_160 hT, sR_154_8 hT, sS_161 hT, sR_154_9 hT, sS_162 hT, sR_154_10 hT, sS_163 hT, hT]
    repeat' (first | assumption | with_reducible refine And.intro ?_ ?_ | intro _)
    all_goals first
      | omega
      | rfl
      | (split <;> omega)
      | (have k9 := ih (by omega)
         (repeat' split at k9) <;> first | exact k9 | omega)
      | (have k9 := ih2 (by omega)
         (repeat' split at k9) <;> first | exact k9 | omega)
      | exact he (by omega)
      | (congr 1; omega)
      | (rw [if_pos (by omega)] at he; exact he)
      | exact hD1 (by omega)
      | exact hD2 (by omega)
      | grind
      | skip
    )
  refine hZ (fun u => Nat.beq u 2) 14 0 _ _ _ _ _ ?_
  simp only [sm_run, sm_blk, sm_get, sm_ent, sm_ents, sm_wds, sm_wd, sm_nl, sm_pop, sm_back, sm_cases, oK, oLK, oL, oI, oA, oJ, oIs, oAs, oJs, oInc, oAdd, oSub, oMul, oDiv, oRem, oNeg, oAnd, oOr, oShl, oI2c, oI2l, oL2i, oLand, oLor, oLshl, oLshr, oLushr, oLcmp, oDup, oDup2, oPop, oGo, oFg, oEq, oNe, oLt, oGe, oGt, oLe, oEq0, oNe0, oLt0, oGe0, oGt0, oLe0, oSw, oGi, oGr, oPi, oPz, oPr, oLen, oIl, oZl, oCl, oRl, oIst, oZst, oCst, oRst, oCopy, oNew, oNa, oNa2, oObj, oCs, oCv, oCi, oIr, oZr, oVr, Nat.beq, List.getElem?_cons_zero, List.getElem?_cons_succ, List.set_cons_zero, List.set_cons_succ, List.length_cons, List.length_nil, List.nil_append, List.cons_append, List.append_nil, List.replicate_succ, List.replicate_zero, Nat.reduceAdd, Nat.reduceSub, Nat.reduceLT, Nat.reduceLeDiff, Nat.reduceBEq, true_and, and_true, Nat.zero_add, Nat.add_zero, Nat.le_refl, Option.some.injEq, exists_eq_left', true_or, or_true, or_false, false_or, reduceCtorEq, Prod.mk.injEq, Sum.inl.injEq, and_self, false_and, and_false, not_true_eq_false, not_false_eq_true, false_implies, true_implies, sm_r, Int.add_zero, Int.zero_add, wI_wsI, wS_wsI, wR_wsI, wI_wCp, wS_wCp, wR_wCp, Nat.reduceEqDiff, reduceIte, sT_iff, sT_iffC, wIf_ne, ne_eq, Bool.false_or, Bool.true_or, Bool.or_false, Bool.or_true, Bool.or_self, tb_X8_come, p_X8_of, p_X8_way, f_X8_of, f_X8_way, p_X8_come, f_X8_come, sS_154 hD.1.1]
  repeat' (first | assumption | with_reducible refine And.intro ?_ ?_ | intro _)
  all_goals first
    | omega
    | rfl
    | (split <;> omega)
    | (have k9 := ih (by omega)
       (repeat' split at k9) <;> first | exact k9 | omega)
    | (have k9 := ih2 (by omega)
       (repeat' split at k9) <;> first | exact k9 | omega)
    | exact he (by omega)
    | (congr 1; omega)
    | (rw [if_pos (by omega)] at he; exact he)
    | exact hD1 (by omega)
    | exact hD2 (by omega)
    | skip

theorem met_X8_come (l : Launch) : sm_Met l yX8_come cX8_come 4 none 2 0 0 p_X8_come f_X8_come := sm_met 0 (Or.inl ⟨rfl, rfl⟩) (by decide +kernel) (sn_X8_come l) ok_X8_come
def mMtC (w : sm_W) (x y : Int) : Prop := wI w 160 x = 1 ∧ wI w 160 y = 1 ∧ wI w 161 x = wI w 161 y ∧ mWay (wI w 155) x ≠ mWay (wI w 155) y
def mMt1 (t x y : Int) (w : sm_W) : sm_W := if (wI w 160 x = 1 ∧ wI w 160 y = 1 ∧ wI w 161 x = wI w 161 y ∧ mWay (wI w 155) x ≠ mWay (wI w 155) y) ∧ wI w 166 (8 * x + y) < 0 then wsI (wsI w 166 (8 * x + y) t) 167 (8 * x + y) (wI w 161 x) else w
theorem mMt1_keep (t x y : Int) (w : sm_W) : (∀ a, a ≠ 166 → a ≠ 167 → wI (mMt1 t x y w) a = wI w a) ∧ (sT w → sT (mMt1 t x y w)) := by
  unfold mMt1
  split
  · exact ⟨fun a h1 h2 => by rw [wIf_ne h2, wIf_ne h1], fun h => h⟩
  · exact ⟨fun _ _ _ => rfl, fun h => h⟩
theorem mDay_keep {w u : sm_W} (hT : sT u) (h155 : wI u 155 = wI w 155) (h160 : wI u 160 = wI w 160) (h161 : wI u 161 = wI w 161) (h162 : wI u 162 = wI w 162) (h : mDay w) : mDay u := by
  refine ⟨⟨hT, by rw [h155]; exact h.1.2⟩, fun x h0 h1 => ?_⟩
  unfold mSh
  rw [h155, h160, h161, h162]
  exact h.2 x h0 (by rw [← h155]; exact h1)
def mMtR (t x : Int) (w : sm_W) : Int → sm_W := itI (fun j => mMt1 t x (x + 1 + j)) w
def mMeet (t : Int) (w : sm_W) : Int → sm_W := itI (fun x r => mMtR t x r (wI w 155 1 - (x + 1))) w
def mSame (w u : sm_W) : Prop := (∀ a, a ≠ 166 → a ≠ 167 → wI u a = wI w a) ∧ (sT w → sT u)
theorem mSame.day {w u : sm_W} (h : mSame w u) (hD : mDay w) : mDay u := mDay_keep (h.2 hD.1.1) (h.1 _ (by decide) (by decide)) (h.1 _ (by decide) (by decide)) (h.1 _ (by decide) (by decide)) (h.1 _ (by decide) (by decide)) hD
theorem mSame.trans {w u v : sm_W} (h : mSame w u) (h2 : mSame u v) : mSame w v := ⟨fun a h1 h3 => by rw [h2.1 a h1 h3, h.1 a h1 h3], fun hT => h2.2 (h.2 hT)⟩
theorem mMtR_same (t x : Int) (w : sm_W) (n : Int) (hn : 0 ≤ n) : mSame w (mMtR t x w n) :=
  itI_ind (fun _ r => mSame w r) n ⟨fun _ _ _ => rfl, fun h => h⟩ (fun i r _ _ h => h.trans (mMt1_keep t x (x + 1 + i) r)) n hn (Int.le_refl _)
theorem mMeet_same (t : Int) (w : sm_W) (n : Int) (h0 : 0 ≤ n) (hn : n ≤ wI w 155 1) : mSame w (mMeet t w n) :=
  itI_ind (fun _ r => mSame w r) n ⟨fun _ _ _ => rfl, fun h => h⟩ (fun i r _ h1 h => h.trans (mMtR_same t i r _ (by omega))) n h0 (Int.le_refl _)
def p_X8_meet : List sm_V → sm_W → Prop
  | [.inr (.inl m), .inl t], w => m = 154 ∧ mDay w
  | _, _ => False
def f_X8_meet : sm_F
  | [.inr (.inl m), .inl t], w => (none, mMeet t w (wI w 155 1))
  | _, w => (none, w)
def tb_X8_meet : List (Nat × List sm_O) := [(0, [oK 0, oIs 2, oFg 3, oFg 4, oGo 2]),
  (2, [oI 2, oA 0, oGr 8 30 0, oK 1, oIl, oGe 141, oI 2, oK 1, oAdd, oIs 3, oFg 4, oGo 16]),
  (16, [oI 3, oA 0, oGr 8 30 0, oK 1, oIl, oGe 135, oA 0, oGr 8 30 7, oI 2, oIl, oK 1, oNe 78, oA 0, oGr 8 30 7, oI 3, oIl, oK 1, oNe 78, oA 0, oGr 8 30 8, oI 2, oIl, oA 0, oGr 8 30 8, oI 3, oIl, oNe 78, oA 0, oI 2, oCv 8 30 p_X8_way f_X8_way 0 0 2, oA 0, oI 3, oCv 8 30 p_X8_way f_X8_way 0 0 2, oEq 78, oK 1, oGo 79]),
  (78, [oK 0, oGo 79]),
  (79, [oIs 4, oI 4, oEq0 129, oA 0, oGr 8 30 13, oK 8, oI 2, oMul, oI 3, oAdd, oIl, oGe0 129, oA 0, oGr 8 30 13, oK 8, oI 2, oMul, oI 3, oAdd, oI 1, oIst, oA 0, oGr 8 30 14, oK 8, oI 2, oMul, oI 3, oAdd, oA 0, oGr 8 30 8, oI 2, oIl, oIst, oGo 129]),
  (129, [oInc 3 1, oFg 4, oGo 16]),
  (135, [oInc 2 1, oFg 3, oFg 4, oGo 2]),
  (141, [oVr])]
set_option maxRecDepth 100000 in
theorem sb_X8_meet_0 (l : Launch) : sm_SndB l RX8 "meet" cX8_meet 5 0 2 0 [oK 0, oIs 2, oFg 3, oFg 4, oGo 2] := sb_cons (sd_iconst (by decide +kernel : decode cX8_meet 0 = .ok (.iconst 0, 1)) ⟨by decide, by decide⟩) (sb_cons (sd_istore_n (by decide +kernel : decode cX8_meet 1 = .ok (.istore_n 2, 1)) rfl) (sb_cons (sd_fg) (sb_cons (sd_fg) (sb_cons (sd_fall (x := 0)) sb_nil))))
set_option maxRecDepth 100000 in
theorem sb_X8_meet_2 (l : Launch) : sm_SndB l RX8 "meet" cX8_meet 5 0 2 2 [oI 2, oA 0, oGr 8 30 0, oK 1, oIl, oGe 141, oI 2, oK 1, oAdd, oIs 3, oFg 4, oGo 16] := sb_cons (sd_iload_n (by decide +kernel : decode cX8_meet 2 = .ok (.iload_n 2, 1)) rfl) (sb_cons (sd_aload_n (by decide +kernel : decode cX8_meet 3 = .ok (.aload_n 0, 1)) rfl) (sb_cons (sd_getr (k := 0) kl_8 (by decide) rfl wm_673 (by decide +kernel : decode cX8_meet 4 = .ok (.getfield 7, 3))) (sb_cons (sd_iconst (by decide +kernel : decode cX8_meet 7 = .ok (.iconst 1, 1)) ⟨by decide, by decide⟩) (sb_cons (sd_iaload (by decide +kernel : decode cX8_meet 8 = .ok (.iaload, 1))) (sb_cons (sd_ge (by decide +kernel : decode cX8_meet 9 = .ok (.if_icmp .ge 132, 3)) (by decide)) (sb_cons (sd_iload_n (by decide +kernel : decode cX8_meet 12 = .ok (.iload_n 2, 1)) rfl) (sb_cons (sd_iconst (by decide +kernel : decode cX8_meet 13 = .ok (.iconst 1, 1)) ⟨by decide, by decide⟩) (sb_cons (sd_iadd (by decide +kernel : decode cX8_meet 14 = .ok (.iadd, 1))) (sb_cons (sd_istore_n (by decide +kernel : decode cX8_meet 15 = .ok (.istore_n 3, 1)) rfl) (sb_cons (sd_fg) (sb_cons (sd_fall (x := 0)) sb_nil)))))))))))
set_option maxRecDepth 100000 in
theorem sb_X8_meet_16 (l : Launch) : sm_SndB l RX8 "meet" cX8_meet 5 0 2 16 [oI 3, oA 0, oGr 8 30 0, oK 1, oIl, oGe 135, oA 0, oGr 8 30 7, oI 2, oIl, oK 1, oNe 78, oA 0, oGr 8 30 7, oI 3, oIl, oK 1, oNe 78, oA 0, oGr 8 30 8, oI 2, oIl, oA 0, oGr 8 30 8, oI 3, oIl, oNe 78, oA 0, oI 2, oCv 8 30 p_X8_way f_X8_way 0 0 2, oA 0, oI 3, oCv 8 30 p_X8_way f_X8_way 0 0 2, oEq 78, oK 1, oGo 79] := sb_cons (sd_iload_n (by decide +kernel : decode cX8_meet 16 = .ok (.iload_n 3, 1)) rfl) (sb_cons (sd_aload_n (by decide +kernel : decode cX8_meet 17 = .ok (.aload_n 0, 1)) rfl) (sb_cons (sd_getr (k := 0) kl_8 (by decide) rfl wm_673 (by decide +kernel : decode cX8_meet 18 = .ok (.getfield 7, 3))) (sb_cons (sd_iconst (by decide +kernel : decode cX8_meet 21 = .ok (.iconst 1, 1)) ⟨by decide, by decide⟩) (sb_cons (sd_iaload (by decide +kernel : decode cX8_meet 22 = .ok (.iaload, 1))) (sb_cons (sd_ge (by decide +kernel : decode cX8_meet 23 = .ok (.if_icmp .ge 112, 3)) (by decide)) (sb_cons (sd_aload_n (by decide +kernel : decode cX8_meet 26 = .ok (.aload_n 0, 1)) rfl) (sb_cons (sd_getr (k := 7) kl_8 (by decide) rfl wm_680 (by decide +kernel : decode cX8_meet 27 = .ok (.getfield 26, 3))) (sb_cons (sd_iload_n (by decide +kernel : decode cX8_meet 30 = .ok (.iload_n 2, 1)) rfl) (sb_cons (sd_iaload (by decide +kernel : decode cX8_meet 31 = .ok (.iaload, 1))) (sb_cons (sd_iconst (by decide +kernel : decode cX8_meet 32 = .ok (.iconst 1, 1)) ⟨by decide, by decide⟩) (sb_cons (sd_ne (by decide +kernel : decode cX8_meet 33 = .ok (.if_icmp .ne 45, 3)) (by decide)) (sb_cons (sd_aload_n (by decide +kernel : decode cX8_meet 36 = .ok (.aload_n 0, 1)) rfl) (sb_cons (sd_getr (k := 7) kl_8 (by decide) rfl wm_680 (by decide +kernel : decode cX8_meet 37 = .ok (.getfield 26, 3))) (sb_cons (sd_iload_n (by decide +kernel : decode cX8_meet 40 = .ok (.iload_n 3, 1)) rfl) (sb_cons (sd_iaload (by decide +kernel : decode cX8_meet 41 = .ok (.iaload, 1))) (sb_cons (sd_iconst (by decide +kernel : decode cX8_meet 42 = .ok (.iconst 1, 1)) ⟨by decide, by decide⟩) (sb_cons (sd_ne (by decide +kernel : decode cX8_meet 43 = .ok (.if_icmp .ne 35, 3)) (by decide)) (sb_cons (sd_aload_n (by decide +kernel : decode cX8_meet 46 = .ok (.aload_n 0, 1)) rfl) (sb_cons (sd_getr (k := 8) kl_8 (by decide) rfl wm_681 (by decide +kernel : decode cX8_meet 47 = .ok (.getfield 29, 3))) (sb_cons (sd_iload_n (by decide +kernel : decode cX8_meet 50 = .ok (.iload_n 2, 1)) rfl) (sb_cons (sd_iaload (by decide +kernel : decode cX8_meet 51 = .ok (.iaload, 1))) (sb_cons (sd_aload_n (by decide +kernel : decode cX8_meet 52 = .ok (.aload_n 0, 1)) rfl) (sb_cons (sd_getr (k := 8) kl_8 (by decide) rfl wm_681 (by decide +kernel : decode cX8_meet 53 = .ok (.getfield 29, 3))) (sb_cons (sd_iload_n (by decide +kernel : decode cX8_meet 56 = .ok (.iload_n 3, 1)) rfl) (sb_cons (sd_iaload (by decide +kernel : decode cX8_meet 57 = .ok (.iaload, 1))) (sb_cons (sd_ne (by decide +kernel : decode cX8_meet 58 = .ok (.if_icmp .ne 20, 3)) (by decide)) (sb_cons (sd_aload_n (by decide +kernel : decode cX8_meet 61 = .ok (.aload_n 0, 1)) rfl) (sb_cons (sd_iload_n (by decide +kernel : decode cX8_meet 62 = .ok (.iload_n 2, 1)) rfl) (sb_cons (sd_callv (n := 1) (met_X8_way l) (by decide) (by decide) wm_821 wm_819 wm_10 ⟨by decide +kernel, by decide +kernel, by decide +kernel⟩ kl_8 wm_820 wm_1120 (by decide +kernel : decode cX8_meet 63 = .ok (.invokevirtual 95, 3))) (sb_cons (sd_aload_n (by decide +kernel : decode cX8_meet 66 = .ok (.aload_n 0, 1)) rfl) (sb_cons (sd_iload_n (by decide +kernel : decode cX8_meet 67 = .ok (.iload_n 3, 1)) rfl) (sb_cons (sd_callv (n := 1) (met_X8_way l) (by decide) (by decide) wm_821 wm_819 wm_10 ⟨by decide +kernel, by decide +kernel, by decide +kernel⟩ kl_8 wm_820 wm_1120 (by decide +kernel : decode cX8_meet 68 = .ok (.invokevirtual 95, 3))) (sb_cons (sd_eq (by decide +kernel : decode cX8_meet 71 = .ok (.if_icmp .eq 7, 3)) (by decide)) (sb_cons (sd_iconst (by decide +kernel : decode cX8_meet 74 = .ok (.iconst 1, 1)) ⟨by decide, by decide⟩) (sb_cons (sd_goto (x := 0) (by decide +kernel : decode cX8_meet 75 = .ok (.goto 4, 3)) (by decide)) sb_nil)))))))))))))))))))))))))))))))))))
set_option maxRecDepth 100000 in
theorem sb_X8_meet_78 (l : Launch) : sm_SndB l RX8 "meet" cX8_meet 5 0 2 78 [oK 0, oGo 79] := sb_cons (sd_iconst (by decide +kernel : decode cX8_meet 78 = .ok (.iconst 0, 1)) ⟨by decide, by decide⟩) (sb_cons (sd_fall (x := 0)) sb_nil)
set_option maxRecDepth 100000 in
theorem sb_X8_meet_79 (l : Launch) : sm_SndB l RX8 "meet" cX8_meet 5 0 2 79 [oIs 4, oI 4, oEq0 129, oA 0, oGr 8 30 13, oK 8, oI 2, oMul, oI 3, oAdd, oIl, oGe0 129, oA 0, oGr 8 30 13, oK 8, oI 2, oMul, oI 3, oAdd, oI 1, oIst, oA 0, oGr 8 30 14, oK 8, oI 2, oMul, oI 3, oAdd, oA 0, oGr 8 30 8, oI 2, oIl, oIst, oGo 129] := sb_cons (sd_istore (by decide +kernel : decode cX8_meet 79 = .ok (.istore 4, 2))) (sb_cons (sd_iload (by decide +kernel : decode cX8_meet 81 = .ok (.iload 4, 2))) (sb_cons (sd_eq0 (by decide +kernel : decode cX8_meet 83 = .ok (.ifCond .eq 46, 3)) (by decide)) (sb_cons (sd_aload_n (by decide +kernel : decode cX8_meet 86 = .ok (.aload_n 0, 1)) rfl) (sb_cons (sd_getr (k := 13) kl_8 (by decide) rfl wm_686 (by decide +kernel : decode cX8_meet 87 = .ok (.getfield 44, 3))) (sb_cons (sd_bipush (by decide +kernel : decode cX8_meet 90 = .ok (.bipush 8, 2)) ⟨by decide, by decide⟩ (by decide)) (sb_cons (sd_iload_n (by decide +kernel : decode cX8_meet 92 = .ok (.iload_n 2, 1)) rfl) (sb_cons (sd_imul (by decide +kernel : decode cX8_meet 93 = .ok (.imul, 1))) (sb_cons (sd_iload_n (by decide +kernel : decode cX8_meet 94 = .ok (.iload_n 3, 1)) rfl) (sb_cons (sd_iadd (by decide +kernel : decode cX8_meet 95 = .ok (.iadd, 1))) (sb_cons (sd_iaload (by decide +kernel : decode cX8_meet 96 = .ok (.iaload, 1))) (sb_cons (sd_ge0 (by decide +kernel : decode cX8_meet 97 = .ok (.ifCond .ge 32, 3)) (by decide)) (sb_cons (sd_aload_n (by decide +kernel : decode cX8_meet 100 = .ok (.aload_n 0, 1)) rfl) (sb_cons (sd_getr (k := 13) kl_8 (by decide) rfl wm_686 (by decide +kernel : decode cX8_meet 101 = .ok (.getfield 44, 3))) (sb_cons (sd_bipush (by decide +kernel : decode cX8_meet 104 = .ok (.bipush 8, 2)) ⟨by decide, by decide⟩ (by decide)) (sb_cons (sd_iload_n (by decide +kernel : decode cX8_meet 106 = .ok (.iload_n 2, 1)) rfl) (sb_cons (sd_imul (by decide +kernel : decode cX8_meet 107 = .ok (.imul, 1))) (sb_cons (sd_iload_n (by decide +kernel : decode cX8_meet 108 = .ok (.iload_n 3, 1)) rfl) (sb_cons (sd_iadd (by decide +kernel : decode cX8_meet 109 = .ok (.iadd, 1))) (sb_cons (sd_iload_n (by decide +kernel : decode cX8_meet 110 = .ok (.iload_n 1, 1)) rfl) (sb_cons (sd_iastore (by decide +kernel : decode cX8_meet 111 = .ok (.iastore, 1))) (sb_cons (sd_aload_n (by decide +kernel : decode cX8_meet 112 = .ok (.aload_n 0, 1)) rfl) (sb_cons (sd_getr (k := 14) kl_8 (by decide) rfl wm_687 (by decide +kernel : decode cX8_meet 113 = .ok (.getfield 47, 3))) (sb_cons (sd_bipush (by decide +kernel : decode cX8_meet 116 = .ok (.bipush 8, 2)) ⟨by decide, by decide⟩ (by decide)) (sb_cons (sd_iload_n (by decide +kernel : decode cX8_meet 118 = .ok (.iload_n 2, 1)) rfl) (sb_cons (sd_imul (by decide +kernel : decode cX8_meet 119 = .ok (.imul, 1))) (sb_cons (sd_iload_n (by decide +kernel : decode cX8_meet 120 = .ok (.iload_n 3, 1)) rfl) (sb_cons (sd_iadd (by decide +kernel : decode cX8_meet 121 = .ok (.iadd, 1))) (sb_cons (sd_aload_n (by decide +kernel : decode cX8_meet 122 = .ok (.aload_n 0, 1)) rfl) (sb_cons (sd_getr (k := 8) kl_8 (by decide) rfl wm_681 (by decide +kernel : decode cX8_meet 123 = .ok (.getfield 29, 3))) (sb_cons (sd_iload_n (by decide +kernel : decode cX8_meet 126 = .ok (.iload_n 2, 1)) rfl) (sb_cons (sd_iaload (by decide +kernel : decode cX8_meet 127 = .ok (.iaload, 1))) (sb_cons (sd_iastore (by decide +kernel : decode cX8_meet 128 = .ok (.iastore, 1))) (sb_cons (sd_fall (x := 0)) sb_nil)))))))))))))))))))))))))))))))))
set_option maxRecDepth 100000 in
theorem sb_X8_meet_129 (l : Launch) : sm_SndB l RX8 "meet" cX8_meet 5 0 2 129 [oInc 3 1, oFg 4, oGo 16] := sb_cons (sd_iinc (by decide +kernel : decode cX8_meet 129 = .ok (.iinc 3 1, 3))) (sb_cons (sd_fg) (sb_cons (sd_goto (x := 0) (by decide +kernel : decode cX8_meet 132 = .ok (.goto (-116), 3)) (by decide)) sb_nil))
set_option maxRecDepth 100000 in
theorem sb_X8_meet_135 (l : Launch) : sm_SndB l RX8 "meet" cX8_meet 5 0 2 135 [oInc 2 1, oFg 3, oFg 4, oGo 2] := sb_cons (sd_iinc (by decide +kernel : decode cX8_meet 135 = .ok (.iinc 2 1, 3))) (sb_cons (sd_fg) (sb_cons (sd_fg) (sb_cons (sd_goto (x := 0) (by decide +kernel : decode cX8_meet 138 = .ok (.goto (-136), 3)) (by decide)) sb_nil)))
set_option maxRecDepth 100000 in
theorem sb_X8_meet_141 (l : Launch) : sm_SndB l RX8 "meet" cX8_meet 5 0 2 141 [oVr] := sb_cons (sd_return (x := 0) rfl (by decide +kernel : decode cX8_meet 141 = .ok (.return_, 1))) sb_nil
theorem sn_X8_meet (l : Launch) : sm_SndT l RX8 "meet" cX8_meet 5 0 2 tb_X8_meet := st_cons (sb_X8_meet_0 l) (st_cons (sb_X8_meet_2 l) (st_cons (sb_X8_meet_16 l) (st_cons (sb_X8_meet_78 l) (st_cons (sb_X8_meet_79 l) (st_cons (sb_X8_meet_129 l) (st_cons (sb_X8_meet_135 l) (st_cons (sb_X8_meet_141 l) (st_nil))))))))
set_option maxRecDepth 100000 in
set_option maxHeartbeats 4000000 in
theorem ok_X8_meet : sm_Ok tb_X8_meet 5 0 0 p_X8_meet f_X8_meet := by
  intro as w hp ha hw
  match as, hp with
  | [.inr (.inl m), .inl t], hp =>
  refine ⟨Nat.le_of_ble_eq_true rfl, fun Z hZ => ?_⟩
  obtain ⟨rfl, hD⟩ := hp
  have hm := vOK_many hD.1.2
  have hl := sm_loopI Z 2 0 (wI w 155 1) (fun i => [some (.inr (.inl 154)), some (.inl t), some (.inl i), none, none]) (fun i => mMeet t w i) 0 0 hm.1 (fun i h0 h1 ih => by
    have hI := mMeet_same t w i h0 h1
    have hu : mMeet t w (i + 1) = mMtR t i (mMeet t w i) (wI w 155 1 - (i + 1)) := itI_s _ _ h0
    rw [hu] at ih
    have he : i = wI w 155 1 → mMeet t w i = mMeet t w (wI w 155 1) := fun e => by rw [← e]
    generalize mMeet t w i = u at *
    have hat : wI u 155 = wI w 155 := hI.1 _ (by decide) (by decide)
    have hU := hI.day hD
    have hT := hU.1.1
    have hl2 : i < wI w 155 1 → Z 16 [some (.inr (.inl 154)), some (.inl t), some (.inl i), some (.inl (i + 1)), none] [] (mMtR t i u (i + 1 - (i + 1))) 0 0 := fun hlt => sm_loopI Z 16 (i + 1) (wI w 155 1) (fun j => [some (.inr (.inl 154)), some (.inl t), some (.inl i), some (.inl j), none]) (fun j => mMtR t i u (j - (i + 1))) 0 0 (by omega) (fun j g0 g1 ih2 => by
      have hJ := mMtR_same t i u (j - (i + 1)) (by omega)
      have hv : mMtR t i u (j + 1 - (i + 1)) = mMt1 t i j (mMtR t i u (j - (i + 1))) := by
        rw [show j + 1 - (i + 1) = (j - (i + 1)) + 1 by omega]
        unfold mMtR
        rw [itI_s _ _ (by omega), show i + 1 + (j - (i + 1)) = j by omega]
      rw [hv] at ih2
      have ih : j = wI w 155 1 → Z 2 [some (.inr (.inl 154)), some (.inl t), some (.inl (i + 1)), none, none] [] (mMtR t i u (j - (i + 1))) 0 0 := fun e => by rw [e]; exact ih hlt
      generalize mMtR t i u (j - (i + 1)) = v at *
      have hat2 : wI v 155 = wI w 155 := by rw [hJ.1 _ (by decide) (by decide), hat]
      have hV := hJ.day hU
      have hT := hV.1.1
      rw [← hat2] at hm h1 hlt g1 ih2 ih
      have hs := hV.2 i h0 hlt
      have hs2 := fun hlt => hV.2 j (by omega) hlt
      simp only [mSh] at hs hs2
      unfold mMt1 at ih2
      refine hZ (fun u => Nat.beq u 2 || Nat.beq u 16) 14 16 _ _ _ _ _ ?_
      simp only [sm_run, sm_blk, sm_get, sm_ent, sm_ents, sm_wds, sm_wd, sm_nl, sm_pop, sm_back, sm_cases, oK, oLK, oL, oI, oA, oJ, oIs, oAs, oJs, oInc, oAdd, oSub, oMul, oDiv, oRem, oNeg, oAnd, oOr, oShl, oI2c, oI2l, oL2i, oLand, oLor, oLshl, oLshr, oLushr, oLcmp, oDup, oDup2, oPop, oGo, oFg, oEq, oNe, oLt, oGe, oGt, oLe, oEq0, oNe0, oLt0, oGe0, oGt0, oLe0, oSw, oGi, oGr, oPi, oPz, oPr, oLen, oIl, oZl, oCl, oRl, oIst, oZst, oCst, oRst, oCopy, oNew, oNa, oNa2, oObj, oCs, oCv, oCi, oIr, oZr, oVr, Nat.beq, List.getElem?_cons_zero, List.getElem?_cons_succ, List.set_cons_zero, List.set_cons_succ, List.length_cons, List.length_nil, List.nil_append, List.cons_append, List.append_nil, List.replicate_succ, List.replicate_zero, Nat.reduceAdd, Nat.reduceSub, Nat.reduceLT, Nat.reduceLeDiff, Nat.reduceBEq, true_and, and_true, Nat.zero_add, Nat.add_zero, Nat.le_refl, Option.some.injEq, exists_eq_left', true_or, or_true, or_false, false_or, reduceCtorEq, Prod.mk.injEq, Sum.inl.injEq, and_self, false_and, and_false, not_true_eq_false, not_false_eq_true, false_implies, true_implies, sm_r, Int.add_zero, Int.zero_add, wI_wsI, wS_wsI, wR_wsI, wI_wCp, wS_wCp, wR_wCp, Nat.reduceEqDiff, reduceIte, sT_iff, sT_iffC, wIf_ne, ne_eq, Bool.false_or, Bool.true_or, Bool.or_false, Bool.or_true, Bool.or_self, tb_X8_meet, p_X8_way, f_X8_way, p_X8_meet, f_X8_meet, sS_154 hT, sR_154_0 hT, sS_155 hT, sR_154_7 hT, sS_160 hT, sR_154_8 hT, sS_161 hT, sR_154_13 hT, sS_166 hT, sR_154_14 hT, sS_167 hT, hT]
      repeat' (first | assumption | with_reducible refine And.intro ?_ ?_ | intro _)
      all_goals first
        | omega
        | rfl
        | (split <;> omega)
        | (have k9 := ih (by omega)
           (repeat' split at k9) <;> first | exact k9 | omega)
        | (have k9 := ih2 (by omega)
           (repeat' split at k9) <;> first | exact k9 | omega)
        | exact he (by omega)
        | (congr 1; omega)
        | (rw [if_pos (by omega)] at he; exact he)
        | exact hD1 (by omega)
        | exact hD2 (by omega)
        | grind
        | skip
      )
    have ih2 : i < wI u 155 1 → Z 16 [some (.inr (.inl 154)), some (.inl t), some (.inl i), some (.inl (i + 1)), none] [] u 0 0 := fun hlt => by
      have h9 := hl2 (by rw [← hat]; exact hlt)
      rw [Int.sub_self] at h9
      exact h9
    have hat1 : wI u 155 1 = wI w 155 1 := by rw [hat]
    rw [← hat] at h1 ih
    clear hl2
    have hm2 := vOK_many hU.1.2
    refine hZ (fun u => Nat.beq u 2 || Nat.beq u 16) 14 2 _ _ _ _ _ ?_
    simp only [sm_run, sm_blk, sm_get, sm_ent, sm_ents, sm_wds, sm_wd, sm_nl, sm_pop, sm_back, sm_cases, oK, oLK, oL, oI, oA, oJ, oIs, oAs, oJs, oInc, oAdd, oSub, oMul, oDiv, oRem, oNeg, oAnd, oOr, oShl, oI2c, oI2l, oL2i, oLand, oLor, oLshl, oLshr, oLushr, oLcmp, oDup, oDup2, oPop, oGo, oFg, oEq, oNe, oLt, oGe, oGt, oLe, oEq0, oNe0, oLt0, oGe0, oGt0, oLe0, oSw, oGi, oGr, oPi, oPz, oPr, oLen, oIl, oZl, oCl, oRl, oIst, oZst, oCst, oRst, oCopy, oNew, oNa, oNa2, oObj, oCs, oCv, oCi, oIr, oZr, oVr, Nat.beq, List.getElem?_cons_zero, List.getElem?_cons_succ, List.set_cons_zero, List.set_cons_succ, List.length_cons, List.length_nil, List.nil_append, List.cons_append, List.append_nil, List.replicate_succ, List.replicate_zero, Nat.reduceAdd, Nat.reduceSub, Nat.reduceLT, Nat.reduceLeDiff, Nat.reduceBEq, true_and, and_true, Nat.zero_add, Nat.add_zero, Nat.le_refl, Option.some.injEq, exists_eq_left', true_or, or_true, or_false, false_or, reduceCtorEq, Prod.mk.injEq, Sum.inl.injEq, and_self, false_and, and_false, not_true_eq_false, not_false_eq_true, false_implies, true_implies, sm_r, Int.add_zero, Int.zero_add, wI_wsI, wS_wsI, wR_wsI, wI_wCp, wS_wCp, wR_wCp, Nat.reduceEqDiff, reduceIte, sT_iff, sT_iffC, wIf_ne, ne_eq, Bool.false_or, Bool.true_or, Bool.or_false, Bool.or_true, Bool.or_self, tb_X8_meet, p_X8_way, f_X8_way, p_X8_meet, f_X8_meet, sS_154 hT, sR_154_0 hT, sS_155 hT]
    repeat' (first | assumption | with_reducible refine And.intro ?_ ?_ | intro _)
    all_goals first
      | omega
      | rfl
      | (split <;> omega)
      | (have k9 := ih (by omega)
         (repeat' split at k9) <;> first | exact k9 | omega)
      | (have k9 := ih2 (by omega)
         (repeat' split at k9) <;> first | exact k9 | omega)
      | exact he (by omega)
      | (congr 1; omega)
      | (rw [if_pos (by omega)] at he; exact he)
      | exact hD1 (by omega)
      | exact hD2 (by omega)
      | skip
    )
  refine hZ (fun u => Nat.beq u 2) 14 0 _ _ _ _ _ ?_
  simp only [sm_run, sm_blk, sm_get, sm_ent, sm_ents, sm_wds, sm_wd, sm_nl, sm_pop, sm_back, sm_cases, oK, oLK, oL, oI, oA, oJ, oIs, oAs, oJs, oInc, oAdd, oSub, oMul, oDiv, oRem, oNeg, oAnd, oOr, oShl, oI2c, oI2l, oL2i, oLand, oLor, oLshl, oLshr, oLushr, oLcmp, oDup, oDup2, oPop, oGo, oFg, oEq, oNe, oLt, oGe, oGt, oLe, oEq0, oNe0, oLt0, oGe0, oGt0, oLe0, oSw, oGi, oGr, oPi, oPz, oPr, oLen, oIl, oZl, oCl, oRl, oIst, oZst, oCst, oRst, oCopy, oNew, oNa, oNa2, oObj, oCs, oCv, oCi, oIr, oZr, oVr, Nat.beq, List.getElem?_cons_zero, List.getElem?_cons_succ, List.set_cons_zero, List.set_cons_succ, List.length_cons, List.length_nil, List.nil_append, List.cons_append, List.append_nil, List.replicate_succ, List.replicate_zero, Nat.reduceAdd, Nat.reduceSub, Nat.reduceLT, Nat.reduceLeDiff, Nat.reduceBEq, true_and, and_true, Nat.zero_add, Nat.add_zero, Nat.le_refl, Option.some.injEq, exists_eq_left', true_or, or_true, or_false, false_or, reduceCtorEq, Prod.mk.injEq, Sum.inl.injEq, and_self, false_and, and_false, not_true_eq_false, not_false_eq_true, false_implies, true_implies, sm_r, Int.add_zero, Int.zero_add, wI_wsI, wS_wsI, wR_wsI, wI_wCp, wS_wCp, wR_wCp, Nat.reduceEqDiff, reduceIte, sT_iff, sT_iffC, wIf_ne, ne_eq, Bool.false_or, Bool.true_or, Bool.or_false, Bool.or_true, Bool.or_self, tb_X8_meet, p_X8_way, f_X8_way, p_X8_meet, f_X8_meet, sS_154 hD.1.1]
  repeat' (first | assumption | with_reducible refine And.intro ?_ ?_ | intro _)
  all_goals first
    | omega
    | rfl
    | (split <;> omega)
    | (have k9 := ih (by omega)
       (repeat' split at k9) <;> first | exact k9 | omega)
    | (have k9 := ih2 (by omega)
       (repeat' split at k9) <;> first | exact k9 | omega)
    | exact he (by omega)
    | (congr 1; omega)
    | (rw [if_pos (by omega)] at he; exact he)
    | exact hD1 (by omega)
    | exact hD2 (by omega)
    | skip

theorem met_X8_meet (l : Launch) : sm_Met l yX8_meet cX8_meet 5 none 2 0 0 p_X8_meet f_X8_meet := sm_met 0 (Or.inl ⟨rfl, rfl⟩) (by decide +kernel) (sn_X8_meet l) ok_X8_meet
end
section
/-! THE REFERENCE: waits, the end of a day, its beginning -/
theorem mWho_in (w : sm_W) (s n : Int) (hn : 0 ≤ n) : mWho w s n = -6 ∨ (0 ≤ mWho w s n ∧ mWho w s n < n ∧ wI w 160 (mWho w s n) = 2 ∧ wI w 161 (mWho w s n) = s) := by
  refine itI_ind (fun i r => r = -6 ∨ (0 ≤ r ∧ r < i ∧ wI w 160 r = 2 ∧ wI w 161 r = s)) n (Or.inl rfl) (fun i r h0 h1 h => ?_) n hn (Int.le_refl _)
  grind
def mWhoA (w : sm_W) (x : Int) : Int := mWho w (sFrom (wI w 161 x) (mWay (wI w 155) x)) (wI w 155 1)
def mRs (w : sm_W) (x : Int) : Int := if mWhoA w x < 0 then 3 else if mWay (wI w 155) (mWhoA w x) ≠ mWay (wI w 155) x then 1 else 2
def p_X8_reason : List sm_V → sm_W → Prop
  | [.inr (.inl m), .inl x], w => m = 154 ∧ mDay w ∧ 0 ≤ x ∧ x < wI w 155 1
  | _, _ => False
def f_X8_reason : sm_F
  | [.inr (.inl m), .inl x], w => (some (.inl (mRs w x)), w)
  | _, w => (none, w)
def tb_X8_reason : List (Nat × List sm_O) := [(0, [oA 0, oA 0, oGr 8 30 8, oI 1, oIl, oA 0, oI 1, oCv 8 30 p_X8_way f_X8_way 0 0 2, oCs p_X8_stretchFrom f_X8_stretchFrom 0 0 2, oCv 8 30 p_X8_whoIsOn f_X8_whoIsOn 0 0 2, oIs 2, oI 2, oGe0 27, oK 3, oGo 45]),
  (27, [oA 0, oI 2, oCv 8 30 p_X8_way f_X8_way 0 0 2, oA 0, oI 1, oCv 8 30 p_X8_way f_X8_way 0 0 2, oEq 44, oK 1, oGo 45]),
  (44, [oK 2, oGo 45]),
  (45, [oIr])]
set_option maxRecDepth 100000 in
theorem sb_X8_reason_0 (l : Launch) : sm_SndB l RX8 "reason" cX8_reason 3 1 2 0 [oA 0, oA 0, oGr 8 30 8, oI 1, oIl, oA 0, oI 1, oCv 8 30 p_X8_way f_X8_way 0 0 2, oCs p_X8_stretchFrom f_X8_stretchFrom 0 0 2, oCv 8 30 p_X8_whoIsOn f_X8_whoIsOn 0 0 2, oIs 2, oI 2, oGe0 27, oK 3, oGo 45] := sb_cons (sd_aload_n (by decide +kernel : decode cX8_reason 0 = .ok (.aload_n 0, 1)) rfl) (sb_cons (sd_aload_n (by decide +kernel : decode cX8_reason 1 = .ok (.aload_n 0, 1)) rfl) (sb_cons (sd_getr (k := 8) kl_8 (by decide) rfl wm_681 (by decide +kernel : decode cX8_reason 2 = .ok (.getfield 29, 3))) (sb_cons (sd_iload_n (by decide +kernel : decode cX8_reason 5 = .ok (.iload_n 1, 1)) rfl) (sb_cons (sd_iaload (by decide +kernel : decode cX8_reason 6 = .ok (.iaload, 1))) (sb_cons (sd_aload_n (by decide +kernel : decode cX8_reason 7 = .ok (.aload_n 0, 1)) rfl) (sb_cons (sd_iload_n (by decide +kernel : decode cX8_reason 8 = .ok (.iload_n 1, 1)) rfl) (sb_cons (sd_callv (n := 1) (met_X8_way l) (by decide) (by decide) wm_821 wm_819 wm_10 ⟨by decide +kernel, by decide +kernel, by decide +kernel⟩ kl_8 wm_820 wm_1120 (by decide +kernel : decode cX8_reason 9 = .ok (.invokevirtual 95, 3))) (sb_cons (sd_calls (n := 2) (met_X8_stretchFrom l) (by decide) (by decide) wm_849 wm_847 wm_10 ⟨by decide +kernel, by decide +kernel, by decide +kernel⟩ wm_848 (by decide +kernel : decode cX8_reason 12 = .ok (.invokestatic 106, 3))) (sb_cons (sd_callv (n := 1) (met_X8_whoIsOn l) (by decide) (by decide) wm_853 wm_851 wm_10 ⟨by decide +kernel, by decide +kernel, by decide +kernel⟩ kl_8 wm_852 wm_1127 (by decide +kernel : decode cX8_reason 15 = .ok (.invokevirtual 109, 3))) (sb_cons (sd_istore_n (by decide +kernel : decode cX8_reason 18 = .ok (.istore_n 2, 1)) rfl) (sb_cons (sd_iload_n (by decide +kernel : decode cX8_reason 19 = .ok (.iload_n 2, 1)) rfl) (sb_cons (sd_ge0 (by decide +kernel : decode cX8_reason 20 = .ok (.ifCond .ge 7, 3)) (by decide)) (sb_cons (sd_iconst (by decide +kernel : decode cX8_reason 23 = .ok (.iconst 3, 1)) ⟨by decide, by decide⟩) (sb_cons (sd_goto (x := 0) (by decide +kernel : decode cX8_reason 24 = .ok (.goto 21, 3)) (by decide)) sb_nil))))))))))))))
set_option maxRecDepth 100000 in
theorem sb_X8_reason_27 (l : Launch) : sm_SndB l RX8 "reason" cX8_reason 3 1 2 27 [oA 0, oI 2, oCv 8 30 p_X8_way f_X8_way 0 0 2, oA 0, oI 1, oCv 8 30 p_X8_way f_X8_way 0 0 2, oEq 44, oK 1, oGo 45] := sb_cons (sd_aload_n (by decide +kernel : decode cX8_reason 27 = .ok (.aload_n 0, 1)) rfl) (sb_cons (sd_iload_n (by decide +kernel : decode cX8_reason 28 = .ok (.iload_n 2, 1)) rfl) (sb_cons (sd_callv (n := 1) (met_X8_way l) (by decide) (by decide) wm_821 wm_819 wm_10 ⟨by decide +kernel, by decide +kernel, by decide +kernel⟩ kl_8 wm_820 wm_1120 (by decide +kernel : decode cX8_reason 29 = .ok (.invokevirtual 95, 3))) (sb_cons (sd_aload_n (by decide +kernel : decode cX8_reason 32 = .ok (.aload_n 0, 1)) rfl) (sb_cons (sd_iload_n (by decide +kernel : decode cX8_reason 33 = .ok (.iload_n 1, 1)) rfl) (sb_cons (sd_callv (n := 1) (met_X8_way l) (by decide) (by decide) wm_821 wm_819 wm_10 ⟨by decide +kernel, by decide +kernel, by decide +kernel⟩ kl_8 wm_820 wm_1120 (by decide +kernel : decode cX8_reason 34 = .ok (.invokevirtual 95, 3))) (sb_cons (sd_eq (by decide +kernel : decode cX8_reason 37 = .ok (.if_icmp .eq 7, 3)) (by decide)) (sb_cons (sd_iconst (by decide +kernel : decode cX8_reason 40 = .ok (.iconst 1, 1)) ⟨by decide, by decide⟩) (sb_cons (sd_goto (x := 0) (by decide +kernel : decode cX8_reason 41 = .ok (.goto 4, 3)) (by decide)) sb_nil))))))))
set_option maxRecDepth 100000 in
theorem sb_X8_reason_44 (l : Launch) : sm_SndB l RX8 "reason" cX8_reason 3 1 2 44 [oK 2, oGo 45] := sb_cons (sd_iconst (by decide +kernel : decode cX8_reason 44 = .ok (.iconst 2, 1)) ⟨by decide, by decide⟩) (sb_cons (sd_fall (x := 0)) sb_nil)
set_option maxRecDepth 100000 in
theorem sb_X8_reason_45 (l : Launch) : sm_SndB l RX8 "reason" cX8_reason 3 1 2 45 [oIr] := sb_cons (sd_ireturn (x := 0) rfl (by decide +kernel : decode cX8_reason 45 = .ok (.ireturn, 1))) sb_nil
theorem sn_X8_reason (l : Launch) : sm_SndT l RX8 "reason" cX8_reason 3 1 2 tb_X8_reason := st_cons (sb_X8_reason_0 l) (st_cons (sb_X8_reason_27 l) (st_cons (sb_X8_reason_44 l) (st_cons (sb_X8_reason_45 l) (st_nil))))
set_option maxRecDepth 100000 in
set_option maxHeartbeats 4000000 in
theorem ok_X8_reason : sm_Ok tb_X8_reason 3 0 0 p_X8_reason f_X8_reason := by
  intro as w hp ha hw
  match as, hp with
  | [.inr (.inl m), .inl x], hp =>
  refine ⟨Nat.le_of_ble_eq_true rfl, fun Z hZ => ?_⟩
  obtain ⟨rfl, hD, h1, h2⟩ := hp
  have hT := hD.1.1
  have hO := hD.1
  have hm := vOK_many hD.1.2
  have hx := hD.2 x h1 h2
  simp only [mSh] at hx
  have hw := mWho_in w (sFrom (wI w 161 x) (mWay (wI w 155) x)) (wI w 155 1) hm.1
  refine hZ (fun _ => false) 16 0 _ _ _ _ _ ?_
  simp only [sm_run, sm_blk, sm_get, sm_ent, sm_ents, sm_wds, sm_wd, sm_nl, sm_pop, sm_back, sm_cases, oK, oLK, oL, oI, oA, oJ, oIs, oAs, oJs, oInc, oAdd, oSub, oMul, oDiv, oRem, oNeg, oAnd, oOr, oShl, oI2c, oI2l, oL2i, oLand, oLor, oLshl, oLshr, oLushr, oLcmp, oDup, oDup2, oPop, oGo, oFg, oEq, oNe, oLt, oGe, oGt, oLe, oEq0, oNe0, oLt0, oGe0, oGt0, oLe0, oSw, oGi, oGr, oPi, oPz, oPr, oLen, oIl, oZl, oCl, oRl, oIst, oZst, oCst, oRst, oCopy, oNew, oNa, oNa2, oObj, oCs, oCv, oCi, oIr, oZr, oVr, Nat.beq, List.getElem?_cons_zero, List.getElem?_cons_succ, List.set_cons_zero, List.set_cons_succ, List.length_cons, List.length_nil, List.nil_append, List.cons_append, List.append_nil, List.replicate_succ, List.replicate_zero, Nat.reduceAdd, Nat.reduceSub, Nat.reduceLT, Nat.reduceLeDiff, Nat.reduceBEq, true_and, and_true, Nat.zero_add, Nat.add_zero, Nat.le_refl, Option.some.injEq, exists_eq_left', true_or, or_true, or_false, false_or, reduceCtorEq, Prod.mk.injEq, Sum.inl.injEq, and_self, false_and, and_false, not_true_eq_false, not_false_eq_true, false_implies, true_implies, sm_r, Int.add_zero, Int.zero_add, wI_wsI, wS_wsI, wR_wsI, wI_wCp, wS_wCp, wR_wCp, Nat.reduceEqDiff, reduceIte, sT_iff, sT_iffC, wIf_ne, ne_eq, Bool.false_or, Bool.true_or, Bool.or_false, Bool.or_true, Bool.or_self, tb_X8_reason, p_X8_stretchFrom, p_X8_way, p_X8_whoIsOn, f_X8_stretchFrom, f_X8_way, f_X8_whoIsOn, p_X8_reason, f_X8_reason, sS_154 hT, sR_154_8 hT, sS_161 hT, hT]
  repeat' (first | with_reducible assumption | with_reducible refine And.intro ?_ ?_ | intro _)
  all_goals first
    | omega
    | assumption
    | rfl
    | (split <;> omega)
    | grind [mRs, mWhoA]
    | skip
theorem met_X8_reason (l : Launch) : sm_Met l yX8_reason cX8_reason 3 (some .int) 2 0 0 p_X8_reason f_X8_reason := sm_met 1 (Or.inr (Or.inl ⟨rfl, rfl⟩)) (by decide +kernel) (sn_X8_reason l) ok_X8_reason
def mWt1 (t x : Int) (w : sm_W) : sm_W := if wI w 160 x ≤ 1 ∧ mReady w x ≤ t then (if 0 ≤ mWhoA w x then wsI (wsI (wsI w 169 (4 * x + mRs w x) (wI w 169 (4 * x + mRs w x) + 1)) 164 (8 * x + wI w 161 x) (mReady w x)) 168 (8 * x + mWhoA w x) (wI w 168 (8 * x + mWhoA w x) + 1) else wsI (wsI w 169 (4 * x + mRs w x) (wI w 169 (4 * x + mRs w x) + 1)) 164 (8 * x + wI w 161 x) (mReady w x)) else w
def mSame2 (w u : sm_W) : Prop := (∀ a, a ≠ 169 → a ≠ 164 → a ≠ 168 → wI u a = wI w a) ∧ (sT w → sT u)
theorem mSame2.day {w u : sm_W} (h : mSame2 w u) (hD : mDay w) : mDay u := mDay_keep (h.2 hD.1.1) (h.1 _ (by decide) (by decide) (by decide)) (h.1 _ (by decide) (by decide) (by decide)) (h.1 _ (by decide) (by decide) (by decide)) (h.1 _ (by decide) (by decide) (by decide)) hD
theorem mWt1_same (t x : Int) (w : sm_W) : mSame2 w (mWt1 t x w) := by
  unfold mWt1
  split
  · split
    · exact ⟨fun a h1 h2 h3 => by rw [wIf_ne h3, wIf_ne h2, wIf_ne h1], fun h => h⟩
    · exact ⟨fun a h1 h2 h3 => by rw [wIf_ne h2, wIf_ne h1], fun h => h⟩
  · exact ⟨fun _ _ _ _ => rfl, fun h => h⟩
/-- the counters of waits are below a bound -/
def mCtr (w : sm_W) (n : Int) : Prop := ∀ i, (0 ≤ wI w 169 i ∧ wI w 169 i ≤ n) ∧ (0 ≤ wI w 168 i ∧ wI w 168 i ≤ n)
theorem mWt1_ctr {t x : Int} {w : sm_W} {n : Int} (h : mCtr w n) : mCtr (mWt1 t x w) (n + 1) := by
  intro i
  have h1 := h i
  have h2 := h (4 * x + mRs w x)
  have h3 := h (8 * x + mWhoA w x)
  unfold mWt1
  split
  · split
    · simp only [wI_wsI, Nat.reduceEqDiff, false_and, true_and, if_false]
      constructor
      · split <;> omega
      · split <;> omega
    · simp only [wI_wsI, Nat.reduceEqDiff, false_and, true_and, if_false]
      constructor
      · split <;> omega
      · omega
  · omega
def mWait (t : Int) (w : sm_W) : Int → sm_W := itI (mWt1 t) w
theorem mWait_inv {t : Int} {w : sm_W} {c : Int} (h : mCtr w c) (n : Int) (h0 : 0 ≤ n) : mSame2 w (mWait t w n) ∧ mCtr (mWait t w n) (c + n) := by
  refine itI_ind (fun i r => mSame2 w r ∧ mCtr r (c + i)) n ⟨⟨fun _ _ _ _ => rfl, fun h => h⟩, by rw [Int.add_zero]; exact h⟩ (fun i r i0 i1 hr => ⟨⟨fun a h1 h2 h3 => by rw [(mWt1_same t i r).1 a h1 h2 h3, hr.1.1 a h1 h2 h3], fun hT => (mWt1_same t i r).2 (hr.1.2 hT)⟩, by have := mWt1_ctr (t := t) (x := i) hr.2; rw [Int.add_assoc] at this; exact this⟩) n h0 (Int.le_refl _)
def p_X8_waitAll : List sm_V → sm_W → Prop
  | [.inr (.inl m), .inl t], w => m = 154 ∧ mDay w ∧ mCtr w 1000000
  | _, _ => False
def f_X8_waitAll : sm_F
  | [.inr (.inl m), .inl t], w => (none, mWait t w (wI w 155 1))
  | _, w => (none, w)
def tb_X8_waitAll : List (Nat × List sm_O) := [(0, [oK 0, oIs 2, oFg 3, oGo 2]),
  (2, [oI 2, oA 0, oGr 8 30 0, oK 1, oIl, oGe 104, oA 0, oI 2, oI 1, oCv 8 30 p_X8_isReady f_X8_isReady 0 0 3, oEq0 98, oA 0, oA 0, oGr 8 30 8, oI 2, oIl, oA 0, oI 2, oCv 8 30 p_X8_way f_X8_way 0 0 2, oCs p_X8_stretchFrom f_X8_stretchFrom 0 0 2, oCv 8 30 p_X8_whoIsOn f_X8_whoIsOn 0 0 2, oIs 3, oA 0, oGr 8 30 16, oK 4, oI 2, oMul, oA 0, oI 2, oCv 8 30 p_X8_reason f_X8_reason 0 0 2, oAdd, oDup2, oIl, oK 1, oAdd, oIst, oA 0, oGr 8 30 11, oK 8, oI 2, oMul, oA 0, oGr 8 30 8, oI 2, oIl, oAdd, oA 0, oI 2, oCv 8 30 p_X8_readyAt f_X8_readyAt 0 0 2, oIst, oI 3, oLt0 98, oA 0, oGr 8 30 15, oK 8, oI 2, oMul, oI 3, oAdd, oDup2, oIl, oK 1, oAdd, oIst, oGo 98]),
  (98, [oInc 2 1, oFg 3, oGo 2]),
  (104, [oVr])]
set_option maxRecDepth 100000 in
theorem sb_X8_waitAll_0 (l : Launch) : sm_SndB l RX8 "waitAll" cX8_waitAll 4 0 3 0 [oK 0, oIs 2, oFg 3, oGo 2] := sb_cons (sd_iconst (by decide +kernel : decode cX8_waitAll 0 = .ok (.iconst 0, 1)) ⟨by decide, by decide⟩) (sb_cons (sd_istore_n (by decide +kernel : decode cX8_waitAll 1 = .ok (.istore_n 2, 1)) rfl) (sb_cons (sd_fg) (sb_cons (sd_fall (x := 0)) sb_nil)))
set_option maxRecDepth 100000 in
theorem sb_X8_waitAll_2 (l : Launch) : sm_SndB l RX8 "waitAll" cX8_waitAll 4 0 3 2 [oI 2, oA 0, oGr 8 30 0, oK 1, oIl, oGe 104, oA 0, oI 2, oI 1, oCv 8 30 p_X8_isReady f_X8_isReady 0 0 3, oEq0 98, oA 0, oA 0, oGr 8 30 8, oI 2, oIl, oA 0, oI 2, oCv 8 30 p_X8_way f_X8_way 0 0 2, oCs p_X8_stretchFrom f_X8_stretchFrom 0 0 2, oCv 8 30 p_X8_whoIsOn f_X8_whoIsOn 0 0 2, oIs 3, oA 0, oGr 8 30 16, oK 4, oI 2, oMul, oA 0, oI 2, oCv 8 30 p_X8_reason f_X8_reason 0 0 2, oAdd, oDup2, oIl, oK 1, oAdd, oIst, oA 0, oGr 8 30 11, oK 8, oI 2, oMul, oA 0, oGr 8 30 8, oI 2, oIl, oAdd, oA 0, oI 2, oCv 8 30 p_X8_readyAt f_X8_readyAt 0 0 2, oIst, oI 3, oLt0 98, oA 0, oGr 8 30 15, oK 8, oI 2, oMul, oI 3, oAdd, oDup2, oIl, oK 1, oAdd, oIst, oGo 98] := sb_cons (sd_iload_n (by decide +kernel : decode cX8_waitAll 2 = .ok (.iload_n 2, 1)) rfl) (sb_cons (sd_aload_n (by decide +kernel : decode cX8_waitAll 3 = .ok (.aload_n 0, 1)) rfl) (sb_cons (sd_getr (k := 0) kl_8 (by decide) rfl wm_673 (by decide +kernel : decode cX8_waitAll 4 = .ok (.getfield 7, 3))) (sb_cons (sd_iconst (by decide +kernel : decode cX8_waitAll 7 = .ok (.iconst 1, 1)) ⟨by decide, by decide⟩) (sb_cons (sd_iaload (by decide +kernel : decode cX8_waitAll 8 = .ok (.iaload, 1))) (sb_cons (sd_ge (by decide +kernel : decode cX8_waitAll 9 = .ok (.if_icmp .ge 95, 3)) (by decide)) (sb_cons (sd_aload_n (by decide +kernel : decode cX8_waitAll 12 = .ok (.aload_n 0, 1)) rfl) (sb_cons (sd_iload_n (by decide +kernel : decode cX8_waitAll 13 = .ok (.iload_n 2, 1)) rfl) (sb_cons (sd_iload_n (by decide +kernel : decode cX8_waitAll 14 = .ok (.iload_n 1, 1)) rfl) (sb_cons (sd_callv (n := 2) (met_X8_isReady l) (by decide) (by decide) wm_841 wm_839 wm_10 ⟨by decide +kernel, by decide +kernel, by decide +kernel⟩ kl_8 wm_840 wm_1125 (by decide +kernel : decode cX8_waitAll 15 = .ok (.invokevirtual 102, 3))) (sb_cons (sd_eq0 (by decide +kernel : decode cX8_waitAll 18 = .ok (.ifCond .eq 80, 3)) (by decide)) (sb_cons (sd_aload_n (by decide +kernel : decode cX8_waitAll 21 = .ok (.aload_n 0, 1)) rfl) (sb_cons (sd_aload_n (by decide +kernel : decode cX8_waitAll 22 = .ok (.aload_n 0, 1)) rfl) (sb_cons (sd_getr (k := 8) kl_8 (by decide) rfl wm_681 (by decide +kernel : decode cX8_waitAll 23 = .ok (.getfield 29, 3))) (sb_cons (sd_iload_n (by decide +kernel : decode cX8_waitAll 26 = .ok (.iload_n 2, 1)) rfl) (sb_cons (sd_iaload (by decide +kernel : decode cX8_waitAll 27 = .ok (.iaload, 1))) (sb_cons (sd_aload_n (by decide +kernel : decode cX8_waitAll 28 = .ok (.aload_n 0, 1)) rfl) (sb_cons (sd_iload_n (by decide +kernel : decode cX8_waitAll 29 = .ok (.iload_n 2, 1)) rfl) (sb_cons (sd_callv (n := 1) (met_X8_way l) (by decide) (by decide) wm_821 wm_819 wm_10 ⟨by decide +kernel, by decide +kernel, by decide +kernel⟩ kl_8 wm_820 wm_1120 (by decide +kernel : decode cX8_waitAll 30 = .ok (.invokevirtual 95, 3))) (sb_cons (sd_calls (n := 2) (met_X8_stretchFrom l) (by decide) (by decide) wm_849 wm_847 wm_10 ⟨by decide +kernel, by decide +kernel, by decide +kernel⟩ wm_848 (by decide +kernel : decode cX8_waitAll 33 = .ok (.invokestatic 106, 3))) (sb_cons (sd_callv (n := 1) (met_X8_whoIsOn l) (by decide) (by decide) wm_853 wm_851 wm_10 ⟨by decide +kernel, by decide +kernel, by decide +kernel⟩ kl_8 wm_852 wm_1127 (by decide +kernel : decode cX8_waitAll 36 = .ok (.invokevirtual 109, 3))) (sb_cons (sd_istore_n (by decide +kernel : decode cX8_waitAll 39 = .ok (.istore_n 3, 1)) rfl) (sb_cons (sd_aload_n (by decide +kernel : decode cX8_waitAll 40 = .ok (.aload_n 0, 1)) rfl) (sb_cons (sd_getr (k := 16) kl_8 (by decide) rfl wm_689 (by decide +kernel : decode cX8_waitAll 41 = .ok (.getfield 53, 3))) (sb_cons (sd_iconst (by decide +kernel : decode cX8_waitAll 44 = .ok (.iconst 4, 1)) ⟨by decide, by decide⟩) (sb_cons (sd_iload_n (by decide +kernel : decode cX8_waitAll 45 = .ok (.iload_n 2, 1)) rfl) (sb_cons (sd_imul (by decide +kernel : decode cX8_waitAll 46 = .ok (.imul, 1))) (sb_cons (sd_aload_n (by decide +kernel : decode cX8_waitAll 47 = .ok (.aload_n 0, 1)) rfl) (sb_cons (sd_iload_n (by decide +kernel : decode cX8_waitAll 48 = .ok (.iload_n 2, 1)) rfl) (sb_cons (sd_callv (n := 1) (met_X8_reason l) (by decide) (by decide) wm_873 wm_871 wm_10 ⟨by decide +kernel, by decide +kernel, by decide +kernel⟩ kl_8 wm_872 wm_1132 (by decide +kernel : decode cX8_waitAll 49 = .ok (.invokevirtual 127, 3))) (sb_cons (sd_iadd (by decide +kernel : decode cX8_waitAll 52 = .ok (.iadd, 1))) (sb_cons (sd_dup2 (by decide +kernel : decode cX8_waitAll 53 = .ok (.dup2, 1))) (sb_cons (sd_iaload (by decide +kernel : decode cX8_waitAll 54 = .ok (.iaload, 1))) (sb_cons (sd_iconst (by decide +kernel : decode cX8_waitAll 55 = .ok (.iconst 1, 1)) ⟨by decide, by decide⟩) (sb_cons (sd_iadd (by decide +kernel : decode cX8_waitAll 56 = .ok (.iadd, 1))) (sb_cons (sd_iastore (by decide +kernel : decode cX8_waitAll 57 = .ok (.iastore, 1))) (sb_cons (sd_aload_n (by decide +kernel : decode cX8_waitAll 58 = .ok (.aload_n 0, 1)) rfl) (sb_cons (sd_getr (k := 11) kl_8 (by decide) rfl wm_684 (by decide +kernel : decode cX8_waitAll 59 = .ok (.getfield 38, 3))) (sb_cons (sd_bipush (by decide +kernel : decode cX8_waitAll 62 = .ok (.bipush 8, 2)) ⟨by decide, by decide⟩ (by decide)) (sb_cons (sd_iload_n (by decide +kernel : decode cX8_waitAll 64 = .ok (.iload_n 2, 1)) rfl) (sb_cons (sd_imul (by decide +kernel : decode cX8_waitAll 65 = .ok (.imul, 1))) (sb_cons (sd_aload_n (by decide +kernel : decode cX8_waitAll 66 = .ok (.aload_n 0, 1)) rfl) (sb_cons (sd_getr (k := 8) kl_8 (by decide) rfl wm_681 (by decide +kernel : decode cX8_waitAll 67 = .ok (.getfield 29, 3))) (sb_cons (sd_iload_n (by decide +kernel : decode cX8_waitAll 70 = .ok (.iload_n 2, 1)) rfl) (sb_cons (sd_iaload (by decide +kernel : decode cX8_waitAll 71 = .ok (.iaload, 1))) (sb_cons (sd_iadd (by decide +kernel : decode cX8_waitAll 72 = .ok (.iadd, 1))) (sb_cons (sd_aload_n (by decide +kernel : decode cX8_waitAll 73 = .ok (.aload_n 0, 1)) rfl) (sb_cons (sd_iload_n (by decide +kernel : decode cX8_waitAll 74 = .ok (.iload_n 2, 1)) rfl) (sb_cons (sd_callv (n := 1) (met_X8_readyAt l) (by decide) (by decide) wm_845 wm_843 wm_10 ⟨by decide +kernel, by decide +kernel, by decide +kernel⟩ kl_8 wm_844 wm_1126 (by decide +kernel : decode cX8_waitAll 75 = .ok (.invokevirtual 99, 3))) (sb_cons (sd_iastore (by decide +kernel : decode cX8_waitAll 78 = .ok (.iastore, 1))) (sb_cons (sd_iload_n (by decide +kernel : decode cX8_waitAll 79 = .ok (.iload_n 3, 1)) rfl) (sb_cons (sd_lt0 (by decide +kernel : decode cX8_waitAll 80 = .ok (.ifCond .lt 18, 3)) (by decide)) (sb_cons (sd_aload_n (by decide +kernel : decode cX8_waitAll 83 = .ok (.aload_n 0, 1)) rfl) (sb_cons (sd_getr (k := 15) kl_8 (by decide) rfl wm_688 (by decide +kernel : decode cX8_waitAll 84 = .ok (.getfield 50, 3))) (sb_cons (sd_bipush (by decide +kernel : decode cX8_waitAll 87 = .ok (.bipush 8, 2)) ⟨by decide, by decide⟩ (by decide)) (sb_cons (sd_iload_n (by decide +kernel : decode cX8_waitAll 89 = .ok (.iload_n 2, 1)) rfl) (sb_cons (sd_imul (by decide +kernel : decode cX8_waitAll 90 = .ok (.imul, 1))) (sb_cons (sd_iload_n (by decide +kernel : decode cX8_waitAll 91 = .ok (.iload_n 3, 1)) rfl) (sb_cons (sd_iadd (by decide +kernel : decode cX8_waitAll 92 = .ok (.iadd, 1))) (sb_cons (sd_dup2 (by decide +kernel : decode cX8_waitAll 93 = .ok (.dup2, 1))) (sb_cons (sd_iaload (by decide +kernel : decode cX8_waitAll 94 = .ok (.iaload, 1))) (sb_cons (sd_iconst (by decide +kernel : decode cX8_waitAll 95 = .ok (.iconst 1, 1)) ⟨by decide, by decide⟩) (sb_cons (sd_iadd (by decide +kernel : decode cX8_waitAll 96 = .ok (.iadd, 1))) (sb_cons (sd_iastore (by decide +kernel : decode cX8_waitAll 97 = .ok (.iastore, 1))) (sb_cons (sd_fall (x := 0)) sb_nil))))))))))))))))))))))))))))))))))))))))))))))))))))))))))))))))
set_option maxRecDepth 100000 in
theorem sb_X8_waitAll_98 (l : Launch) : sm_SndB l RX8 "waitAll" cX8_waitAll 4 0 3 98 [oInc 2 1, oFg 3, oGo 2] := sb_cons (sd_iinc (by decide +kernel : decode cX8_waitAll 98 = .ok (.iinc 2 1, 3))) (sb_cons (sd_fg) (sb_cons (sd_goto (x := 0) (by decide +kernel : decode cX8_waitAll 101 = .ok (.goto (-99), 3)) (by decide)) sb_nil))
set_option maxRecDepth 100000 in
theorem sb_X8_waitAll_104 (l : Launch) : sm_SndB l RX8 "waitAll" cX8_waitAll 4 0 3 104 [oVr] := sb_cons (sd_return (x := 0) rfl (by decide +kernel : decode cX8_waitAll 104 = .ok (.return_, 1))) sb_nil
theorem sn_X8_waitAll (l : Launch) : sm_SndT l RX8 "waitAll" cX8_waitAll 4 0 3 tb_X8_waitAll := st_cons (sb_X8_waitAll_0 l) (st_cons (sb_X8_waitAll_2 l) (st_cons (sb_X8_waitAll_98 l) (st_cons (sb_X8_waitAll_104 l) (st_nil))))
set_option maxRecDepth 100000 in
set_option maxHeartbeats 4000000 in
theorem ok_X8_waitAll : sm_Ok tb_X8_waitAll 4 0 0 p_X8_waitAll f_X8_waitAll := by
  intro as w hp ha hw
  match as, hp with
  | [.inr (.inl m), .inl t], hp =>
  refine ⟨Nat.le_of_ble_eq_true rfl, fun Z hZ => ?_⟩
  obtain ⟨rfl, hD, hc⟩ := hp
  have hm := vOK_many hD.1.2
  have hl := sm_loopI Z 2 0 (wI w 155 1) (fun i => [some (.inr (.inl 154)), some (.inl t), some (.inl i), none]) (fun i => mWait t w i) 0 0 hm.1 (fun i h0 h1 ih => by
    have hI := mWait_inv (t := t) hc i h0
    have hu : mWait t w (i + 1) = mWt1 t i (mWait t w i) := itI_s _ _ h0
    rw [hu] at ih
    have he : i = wI w 155 1 → mWait t w i = mWait t w (wI w 155 1) := fun e => by rw [← e]
    generalize mWait t w i = u at *
    obtain ⟨hI, hC⟩ := hI
    have hat : wI u 155 = wI w 155 := hI.1 _ (by decide) (by decide) (by decide)
    have hat1 : wI u 155 1 = wI w 155 1 := by rw [hat]
    have hU := hI.day hD
    have hT := hU.1.1
    have hO := hU.1
    rw [← hat] at h1 ih
    have hm2 := vOK_many hU.1.2
    have hs := fun hlt => hU.2 i h0 hlt
    simp only [mSh] at hs
    have hwp := mWay_pm (wI u 155) i
    have hw := mWho_in u (sFrom (wI u 161 i) (mWay (wI u 155) i)) (wI u 155 1) hm2.1
    have hrs : 1 ≤ mRs u i ∧ mRs u i ≤ 3 := by
      unfold mRs
      split
      · omega
      · split <;> omega
    have c1 := hC (4 * i + mRs u i)
    have c2 := hC (8 * i + mWhoA u i)
    have hwa : mWho u (sFrom (wI u 161 i) (mWay (wI u 155) i)) (wI u 155 1) = mWhoA u i := rfl
    rw [hwa] at hw
    unfold mWt1 at ih
    refine hZ (fun u => Nat.beq u 2) 14 2 _ _ _ _ _ ?_
    simp only [sm_run, sm_blk, sm_get, sm_ent, sm_ents, sm_wds, sm_wd, sm_nl, sm_pop, sm_back, sm_cases, oK, oLK, oL, oI, oA, oJ, oIs, oAs, oJs, oInc, oAdd, oSub, oMul, oDiv, oRem, oNeg, oAnd, oOr, oShl, oI2c, oI2l, oL2i, oLand, oLor, oLshl, oLshr, oLushr, oLcmp, oDup, oDup2, oPop, oGo, oFg, oEq, oNe, oLt, oGe, oGt, oLe, oEq0, oNe0, oLt0, oGe0, oGt0, oLe0, oSw, oGi, oGr, oPi, oPz, oPr, oLen, oIl, oZl, oCl, oRl, oIst, oZst, oCst, oRst, oCopy, oNew, oNa, oNa2, oObj, oCs, oCv, oCi, oIr, oZr, oVr, Nat.beq, List.getElem?_cons_zero, List.getElem?_cons_succ, List.set_cons_zero, List.set_cons_succ, List.length_cons, List.length_nil, List.nil_append, List.cons_append, List.append_nil, List.replicate_succ, List.replicate_zero, Nat.reduceAdd, Nat.reduceSub, Nat.reduceLT, Nat.reduceLeDiff, Nat.reduceBEq, true_and, and_true, Nat.zero_add, Nat.add_zero, Nat.le_refl, Option.some.injEq, exists_eq_left', true_or, or_true, or_false, false_or, reduceCtorEq, Prod.mk.injEq, Sum.inl.injEq, and_self, false_and, and_false, not_true_eq_false, not_false_eq_true, false_implies, true_implies, sm_r, Int.add_zero, Int.zero_add, wI_wsI, wS_wsI, wR_wsI, wI_wCp, wS_wCp, wR_wCp, Nat.reduceEqDiff, reduceIte, sT_iff, sT_iffC, wIf_ne, ne_eq, Bool.false_or, Bool.true_or, Bool.or_false, Bool.or_true, Bool.or_self, tb_X8_waitAll, p_X8_isReady, p_X8_readyAt, p_X8_reason, p_X8_stretchFrom, p_X8_way, p_X8_whoIsOn, f_X8_isReady, f_X8_readyAt, f_X8_reason, f_X8_stretchFrom, f_X8_way, f_X8_whoIsOn, p_X8_waitAll, f_X8_waitAll, sS_154 hT, sR_154_0 hT, sS_155 hT, sR_154_7 hT, sS_160 hT, sR_154_8 hT, sS_161 hT, sR_154_16 hT, sS_169 hT, sR_154_11 hT, sS_164 hT, sR_154_15 hT, sS_168 hT, hT, hO, hU, hwa]
    repeat' (first | with_reducible assumption | with_reducible refine And.intro ?_ ?_ | intro _)
    all_goals first
      | omega
      | assumption
      | rfl
      | (split <;> omega)
      | (have k9 := ih (by omega)
         (repeat' split at k9) <;> first | exact k9 | omega)
      | (have k9 := ih2 (by omega)
         (repeat' split at k9) <;> first | exact k9 | omega)
      | exact he (by omega)
      | (congr 1; omega)
      | (rw [if_pos (by omega)] at he; exact he)
      | exact hD1 (by omega)
      | exact hD2 (by omega)
      | grind
      | skip
    )
  refine hZ (fun u => Nat.beq u 2) 14 0 _ _ _ _ _ ?_
  simp only [sm_run, sm_blk, sm_get, sm_ent, sm_ents, sm_wds, sm_wd, sm_nl, sm_pop, sm_back, sm_cases, oK, oLK, oL, oI, oA, oJ, oIs, oAs, oJs, oInc, oAdd, oSub, oMul, oDiv, oRem, oNeg, oAnd, oOr, oShl, oI2c, oI2l, oL2i, oLand, oLor, oLshl, oLshr, oLushr, oLcmp, oDup, oDup2, oPop, oGo, oFg, oEq, oNe, oLt, oGe, oGt, oLe, oEq0, oNe0, oLt0, oGe0, oGt0, oLe0, oSw, oGi, oGr, oPi, oPz, oPr, oLen, oIl, oZl, oCl, oRl, oIst, oZst, oCst, oRst, oCopy, oNew, oNa, oNa2, oObj, oCs, oCv, oCi, oIr, oZr, oVr, Nat.beq, List.getElem?_cons_zero, List.getElem?_cons_succ, List.set_cons_zero, List.set_cons_succ, List.length_cons, List.length_nil, List.nil_append, List.cons_append, List.append_nil, List.replicate_succ, List.replicate_zero, Nat.reduceAdd, Nat.reduceSub, Nat.reduceLT, Nat.reduceLeDiff, Nat.reduceBEq, true_and, and_true, Nat.zero_add, Nat.add_zero, Nat.le_refl, Option.some.injEq, exists_eq_left', true_or, or_true, or_false, false_or, reduceCtorEq, Prod.mk.injEq, Sum.inl.injEq, and_self, false_and, and_false, not_true_eq_false, not_false_eq_true, false_implies, true_implies, sm_r, Int.add_zero, Int.zero_add, wI_wsI, wS_wsI, wR_wsI, wI_wCp, wS_wCp, wR_wCp, Nat.reduceEqDiff, reduceIte, sT_iff, sT_iffC, wIf_ne, ne_eq, Bool.false_or, Bool.true_or, Bool.or_false, Bool.or_true, Bool.or_self, tb_X8_waitAll, p_X8_isReady, p_X8_readyAt, p_X8_reason, p_X8_stretchFrom, p_X8_way, p_X8_whoIsOn, f_X8_isReady, f_X8_readyAt, f_X8_reason, f_X8_stretchFrom, f_X8_way, f_X8_whoIsOn, p_X8_waitAll, f_X8_waitAll, sS_154 hD.1.1]
  repeat' (first | with_reducible assumption | with_reducible refine And.intro ?_ ?_ | intro _)
  all_goals first
    | omega
    | assumption
    | rfl
    | (split <;> omega)
    | (have k9 := ih (by omega)
       (repeat' split at k9) <;> first | exact k9 | omega)
    | (have k9 := ih2 (by omega)
       (repeat' split at k9) <;> first | exact k9 | omega)
    | exact he (by omega)
    | (congr 1; omega)
    | (rw [if_pos (by omega)] at he; exact he)
    | exact hD1 (by omega)
    | exact hD2 (by omega)
    | skip
theorem met_X8_waitAll (l : Launch) : sm_Met l yX8_waitAll cX8_waitAll 4 none 3 0 0 p_X8_waitAll f_X8_waitAll := sm_met 0 (Or.inl ⟨rfl, rfl⟩) (by decide +kernel) (sn_X8_waitAll l) ok_X8_waitAll
def orI (a b : Int) : Int := ((a.toNat ||| b.toNat : Nat) : Int)
def p2 (y : Int) : Int := ((2 ^ y.toNat : Nat) : Int)
theorem orI_def (a b : Int) : ((a.toNat ||| b.toNat : Nat) : Int) = orI a b := rfl
theorem p2_def (y : Int) : ((2 ^ y.toNat : Nat) : Int) = p2 y := rfl
theorem orI_b {a b : Int} (ha : a < 256) (hb : b < 256) : 0 ≤ orI a b ∧ orI a b < 256 := by
  unfold orI
  have : a.toNat ||| b.toNat < 256 := Nat.or_lt_two_pow (n := 8) (by omega) (by omega)
  omega
theorem p2_b {y : Int} (h1 : y < 8) : 0 ≤ p2 y ∧ p2 y < 256 := by
  unfold p2
  have h : y.toNat ≤ 7 := by omega
  have h2 : 2 ^ y.toNat ≤ 2 ^ 7 := Nat.pow_le_pow_right (by decide) h
  generalize 2 ^ y.toNat = k at h2 ⊢
  omega
def mLf (w : sm_W) (x r : Int) : Int := orI r (if wI w 160 x = 3 then 0 else p2 x)
def mLeft (w : sm_W) : Int → Int := itI (mLf w) 0
theorem mLeft_b (w : sm_W) (n : Int) (h0 : 0 ≤ n) (h8 : n ≤ 8) : 0 ≤ mLeft w n ∧ mLeft w n < 256 := by
  refine itI_ind (fun i r => 0 ≤ r ∧ r < 256) n ⟨by decide, by decide⟩ (fun i r i0 i1 hr => ?_) n h0 (Int.le_refl _)
  unfold mLf
  refine orI_b hr.2 ?_
  split
  · decide
  · exact (p2_b (by omega)).2
def mBk (w : sm_W) (t x : Int) : Int := if wI w 160 x = 2 then 1 else (if wI w 160 x = 3 then 0 else (if wI w 160 x ≤ 1 ∧ mReady w x ≤ t then 0 else 1))
def mEd (w : sm_W) (t x r : Int) : Int := if r = 1 then (if mBk w t x = 1 then 0 else 1) else r
def mEnd (w : sm_W) (t : Int) : Int → Int := itI (mEd w t) 1
theorem mEnd_0 {w : sm_W} {t i n : Int} (h0 : 0 ≤ i) (hn : i < n) (h : mEnd w t i = 1) (hb : mBk w t i = 1) : mEnd w t n = 0 := by
  refine itI_abs (f := mEd w t) (r0 := 0) (fun k _ => rfl) (i := i + 1) (by omega) (by omega) ?_
  show mEnd w t (i + 1) = 0
  unfold mEnd at h ⊢
  rw [itI_s _ _ h0, h]
  unfold mEd
  rw [if_pos rfl, if_pos hb]
theorem mEnd_1 {w : sm_W} {t i : Int} (h0 : 0 ≤ i) (h : mEnd w t i = 1) (hb : ¬ mBk w t i = 1) : mEnd w t (i + 1) = 1 := by
  unfold mEnd at h ⊢
  rw [itI_s _ _ h0, h]
  unfold mEd
  rw [if_pos rfl, if_neg hb]
def p_X8_ends : List sm_V → sm_W → Prop
  | [.inr (.inl m), .inl t], w => m = 154 ∧ mDay w
  | _, _ => False
def f_X8_ends : sm_F
  | [.inr (.inl m), .inl t], w => (some (.inl (mEnd w t (wI w 155 1))), (if mEnd w t (wI w 155 1) = 1 then wsI w 154 18 (mLeft w (wI w 155 1)) else w))
  | _, w => (none, w)
def tb_X8_ends : List (Nat × List sm_O) := [(0, [oK 0, oIs 2, oK 0, oIs 3, oGo 4]),
  (4, [oI 3, oA 0, oGr 8 30 0, oK 1, oIl, oGe 71, oA 0, oGr 8 30 7, oI 3, oIl, oK 2, oEq 43, oA 0, oGr 8 30 7, oI 3, oIl, oK 3, oEq 45, oA 0, oI 3, oI 1, oCv 8 30 p_X8_isReady f_X8_isReady 0 0 3, oNe0 45, oGo 43]),
  (43, [oK 0, oZr]),
  (45, [oI 2, oA 0, oGr 8 30 7, oI 3, oIl, oK 3, oNe 60, oK 0, oGo 63]),
  (60, [oK 1, oI 3, oShl, oGo 63]),
  (63, [oOr, oIs 2, oInc 3 1, oGo 4]),
  (71, [oA 0, oI 2, oPi 8 30 18, oK 1, oZr])]
set_option maxRecDepth 100000 in
theorem sb_X8_ends_0 (l : Launch) : sm_SndB l RX8 "ends" cX8_ends 4 2 3 0 [oK 0, oIs 2, oK 0, oIs 3, oGo 4] := sb_cons (sd_iconst (by decide +kernel : decode cX8_ends 0 = .ok (.iconst 0, 1)) ⟨by decide, by decide⟩) (sb_cons (sd_istore_n (by decide +kernel : decode cX8_ends 1 = .ok (.istore_n 2, 1)) rfl) (sb_cons (sd_iconst (by decide +kernel : decode cX8_ends 2 = .ok (.iconst 0, 1)) ⟨by decide, by decide⟩) (sb_cons (sd_istore_n (by decide +kernel : decode cX8_ends 3 = .ok (.istore_n 3, 1)) rfl) (sb_cons (sd_fall (x := 0)) sb_nil))))
set_option maxRecDepth 100000 in
theorem sb_X8_ends_4 (l : Launch) : sm_SndB l RX8 "ends" cX8_ends 4 2 3 4 [oI 3, oA 0, oGr 8 30 0, oK 1, oIl, oGe 71, oA 0, oGr 8 30 7, oI 3, oIl, oK 2, oEq 43, oA 0, oGr 8 30 7, oI 3, oIl, oK 3, oEq 45, oA 0, oI 3, oI 1, oCv 8 30 p_X8_isReady f_X8_isReady 0 0 3, oNe0 45, oGo 43] := sb_cons (sd_iload_n (by decide +kernel : decode cX8_ends 4 = .ok (.iload_n 3, 1)) rfl) (sb_cons (sd_aload_n (by decide +kernel : decode cX8_ends 5 = .ok (.aload_n 0, 1)) rfl) (sb_cons (sd_getr (k := 0) kl_8 (by decide) rfl wm_673 (by decide +kernel : decode cX8_ends 6 = .ok (.getfield 7, 3))) (sb_cons (sd_iconst (by decide +kernel : decode cX8_ends 9 = .ok (.iconst 1, 1)) ⟨by decide, by decide⟩) (sb_cons (sd_iaload (by decide +kernel : decode cX8_ends 10 = .ok (.iaload, 1))) (sb_cons (sd_ge (by decide +kernel : decode cX8_ends 11 = .ok (.if_icmp .ge 60, 3)) (by decide)) (sb_cons (sd_aload_n (by decide +kernel : decode cX8_ends 14 = .ok (.aload_n 0, 1)) rfl) (sb_cons (sd_getr (k := 7) kl_8 (by decide) rfl wm_680 (by decide +kernel : decode cX8_ends 15 = .ok (.getfield 26, 3))) (sb_cons (sd_iload_n (by decide +kernel : decode cX8_ends 18 = .ok (.iload_n 3, 1)) rfl) (sb_cons (sd_iaload (by decide +kernel : decode cX8_ends 19 = .ok (.iaload, 1))) (sb_cons (sd_iconst (by decide +kernel : decode cX8_ends 20 = .ok (.iconst 2, 1)) ⟨by decide, by decide⟩) (sb_cons (sd_eq (by decide +kernel : decode cX8_ends 21 = .ok (.if_icmp .eq 22, 3)) (by decide)) (sb_cons (sd_aload_n (by decide +kernel : decode cX8_ends 24 = .ok (.aload_n 0, 1)) rfl) (sb_cons (sd_getr (k := 7) kl_8 (by decide) rfl wm_680 (by decide +kernel : decode cX8_ends 25 = .ok (.getfield 26, 3))) (sb_cons (sd_iload_n (by decide +kernel : decode cX8_ends 28 = .ok (.iload_n 3, 1)) rfl) (sb_cons (sd_iaload (by decide +kernel : decode cX8_ends 29 = .ok (.iaload, 1))) (sb_cons (sd_iconst (by decide +kernel : decode cX8_ends 30 = .ok (.iconst 3, 1)) ⟨by decide, by decide⟩) (sb_cons (sd_eq (by decide +kernel : decode cX8_ends 31 = .ok (.if_icmp .eq 14, 3)) (by decide)) (sb_cons (sd_aload_n (by decide +kernel : decode cX8_ends 34 = .ok (.aload_n 0, 1)) rfl) (sb_cons (sd_iload_n (by decide +kernel : decode cX8_ends 35 = .ok (.iload_n 3, 1)) rfl) (sb_cons (sd_iload_n (by decide +kernel : decode cX8_ends 36 = .ok (.iload_n 1, 1)) rfl) (sb_cons (sd_callv (n := 2) (met_X8_isReady l) (by decide) (by decide) wm_841 wm_839 wm_10 ⟨by decide +kernel, by decide +kernel, by decide +kernel⟩ kl_8 wm_840 wm_1125 (by decide +kernel : decode cX8_ends 37 = .ok (.invokevirtual 102, 3))) (sb_cons (sd_ne0 (by decide +kernel : decode cX8_ends 40 = .ok (.ifCond .ne 5, 3)) (by decide)) (sb_cons (sd_fall (x := 0)) sb_nil)))))))))))))))))))))))
set_option maxRecDepth 100000 in
theorem sb_X8_ends_43 (l : Launch) : sm_SndB l RX8 "ends" cX8_ends 4 2 3 43 [oK 0, oZr] := sb_cons (sd_iconst (by decide +kernel : decode cX8_ends 43 = .ok (.iconst 0, 1)) ⟨by decide, by decide⟩) (sb_cons (sd_zreturn (x := 0) rfl (by decide +kernel : decode cX8_ends 44 = .ok (.ireturn, 1))) sb_nil)
set_option maxRecDepth 100000 in
theorem sb_X8_ends_45 (l : Launch) : sm_SndB l RX8 "ends" cX8_ends 4 2 3 45 [oI 2, oA 0, oGr 8 30 7, oI 3, oIl, oK 3, oNe 60, oK 0, oGo 63] := sb_cons (sd_iload_n (by decide +kernel : decode cX8_ends 45 = .ok (.iload_n 2, 1)) rfl) (sb_cons (sd_aload_n (by decide +kernel : decode cX8_ends 46 = .ok (.aload_n 0, 1)) rfl) (sb_cons (sd_getr (k := 7) kl_8 (by decide) rfl wm_680 (by decide +kernel : decode cX8_ends 47 = .ok (.getfield 26, 3))) (sb_cons (sd_iload_n (by decide +kernel : decode cX8_ends 50 = .ok (.iload_n 3, 1)) rfl) (sb_cons (sd_iaload (by decide +kernel : decode cX8_ends 51 = .ok (.iaload, 1))) (sb_cons (sd_iconst (by decide +kernel : decode cX8_ends 52 = .ok (.iconst 3, 1)) ⟨by decide, by decide⟩) (sb_cons (sd_ne (by decide +kernel : decode cX8_ends 53 = .ok (.if_icmp .ne 7, 3)) (by decide)) (sb_cons (sd_iconst (by decide +kernel : decode cX8_ends 56 = .ok (.iconst 0, 1)) ⟨by decide, by decide⟩) (sb_cons (sd_goto (x := 0) (by decide +kernel : decode cX8_ends 57 = .ok (.goto 6, 3)) (by decide)) sb_nil))))))))
set_option maxRecDepth 100000 in
theorem sb_X8_ends_60 (l : Launch) : sm_SndB l RX8 "ends" cX8_ends 4 2 3 60 [oK 1, oI 3, oShl, oGo 63] := sb_cons (sd_iconst (by decide +kernel : decode cX8_ends 60 = .ok (.iconst 1, 1)) ⟨by decide, by decide⟩) (sb_cons (sd_iload_n (by decide +kernel : decode cX8_ends 61 = .ok (.iload_n 3, 1)) rfl) (sb_cons (sd_ishl (by decide +kernel : decode cX8_ends 62 = .ok (.ishl, 1))) (sb_cons (sd_fall (x := 0)) sb_nil)))
set_option maxRecDepth 100000 in
theorem sb_X8_ends_63 (l : Launch) : sm_SndB l RX8 "ends" cX8_ends 4 2 3 63 [oOr, oIs 2, oInc 3 1, oGo 4] := sb_cons (sd_ior (by decide +kernel : decode cX8_ends 63 = .ok (.ior, 1))) (sb_cons (sd_istore_n (by decide +kernel : decode cX8_ends 64 = .ok (.istore_n 2, 1)) rfl) (sb_cons (sd_iinc (by decide +kernel : decode cX8_ends 65 = .ok (.iinc 3 1, 3))) (sb_cons (sd_goto (x := 0) (by decide +kernel : decode cX8_ends 68 = .ok (.goto (-64), 3)) (by decide)) sb_nil)))
set_option maxRecDepth 100000 in
theorem sb_X8_ends_71 (l : Launch) : sm_SndB l RX8 "ends" cX8_ends 4 2 3 71 [oA 0, oI 2, oPi 8 30 18, oK 1, oZr] := sb_cons (sd_aload_n (by decide +kernel : decode cX8_ends 71 = .ok (.aload_n 0, 1)) rfl) (sb_cons (sd_iload_n (by decide +kernel : decode cX8_ends 72 = .ok (.iload_n 2, 1)) rfl) (sb_cons (sd_puti (k := 18) kl_8 (by decide) rfl (Or.inl rfl) wm_691 (by decide +kernel : decode cX8_ends 73 = .ok (.putfield 92, 3))) (sb_cons (sd_iconst (by decide +kernel : decode cX8_ends 76 = .ok (.iconst 1, 1)) ⟨by decide, by decide⟩) (sb_cons (sd_zreturn (x := 0) rfl (by decide +kernel : decode cX8_ends 77 = .ok (.ireturn, 1))) sb_nil))))
theorem sn_X8_ends (l : Launch) : sm_SndT l RX8 "ends" cX8_ends 4 2 3 tb_X8_ends := st_cons (sb_X8_ends_0 l) (st_cons (sb_X8_ends_4 l) (st_cons (sb_X8_ends_43 l) (st_cons (sb_X8_ends_45 l) (st_cons (sb_X8_ends_60 l) (st_cons (sb_X8_ends_63 l) (st_cons (sb_X8_ends_71 l) (st_nil)))))))
set_option maxRecDepth 100000 in
set_option maxHeartbeats 4000000 in
theorem ok_X8_ends : sm_Ok tb_X8_ends 4 0 0 p_X8_ends f_X8_ends := by
  intro as w hp ha hw
  match as, hp with
  | [.inr (.inl m), .inl t], hp =>
  refine ⟨Nat.le_of_ble_eq_true rfl, fun Z hZ => ?_⟩
  obtain ⟨rfl, hD⟩ := hp
  have hT := hD.1.1
  have hO := hD.1
  have hm := vOK_many hD.1.2
  have hl := sm_loopM (S := Int) Z 4 (fun i => (wI w 155 1 - i).toNat) (fun i => 0 ≤ i ∧ i ≤ wI w 155 1 ∧ mEnd w t i = 1) (fun i => [some (.inr (.inl 154)), some (.inl t), some (.inl (mLeft w i)), some (.inl i)]) (fun _ => w) 0 0 (fun i hI ih => by
    obtain ⟨h0, h1, hE⟩ := hI
    have he0 := fun hlt hb => mEnd_0 (w := w) (t := t) (n := wI w 155 1) h0 hlt hE hb
    have he1 := fun hb => mEnd_1 (w := w) (t := t) h0 hE hb
    have ih := fun hlt : i < wI w 155 1 => fun hb => ih (i + 1) ⟨by omega, by omega, he1 hb⟩ (by omega)
    have hb := mLeft_b w i h0 (by omega)
    have hp2 := fun hlt : i < 8 => p2_b hlt
    have hu : mLeft w (i + 1) = mLf w i (mLeft w i) := itI_s _ _ h0
    rw [hu] at ih
    unfold mLf at ih
    have hs := fun hlt => hD.2 i h0 hlt
    simp only [mSh] at hs
    by_cases hbk : mBk w t i = 1
    · have he0 := fun hlt => he0 hlt hbk
      clear ih he1
      have hx0 : i = wI w 155 1 → mEnd w t (wI w 155 1) = 1 := fun e => by rw [← e]; exact hE
      have hx1 : i = wI w 155 1 → mLeft w (wI w 155 1) = mLeft w i := fun e => by rw [e]
      unfold mBk at hbk
      refine hZ (fun u => Nat.beq u 4) 14 4 _ _ _ _ _ ?_
      simp only [sm_run, sm_blk, sm_get, sm_ent, sm_ents, sm_wds, sm_wd, sm_nl, sm_pop, sm_back, sm_cases, oK, oLK, oL, oI, oA, oJ, oIs, oAs, oJs, oInc, oAdd, oSub, oMul, oDiv, oRem, oNeg, oAnd, oOr, oShl, oI2c, oI2l, oL2i, oLand, oLor, oLshl, oLshr, oLushr, oLcmp, oDup, oDup2, oPop, oGo, oFg, oEq, oNe, oLt, oGe, oGt, oLe, oEq0, oNe0, oLt0, oGe0, oGt0, oLe0, oSw, oGi, oGr, oPi, oPz, oPr, oLen, oIl, oZl, oCl, oRl, oIst, oZst, oCst, oRst, oCopy, oNew, oNa, oNa2, oObj, oCs, oCv, oCi, oIr, oZr, oVr, Nat.beq, List.getElem?_cons_zero, List.getElem?_cons_succ, List.set_cons_zero, List.set_cons_succ, List.length_cons, List.length_nil, List.nil_append, List.cons_append, List.append_nil, List.replicate_succ, List.replicate_zero, Nat.reduceAdd, Nat.reduceSub, Nat.reduceLT, Nat.reduceLeDiff, Nat.reduceBEq, true_and, and_true, Nat.zero_add, Nat.add_zero, Nat.le_refl, Option.some.injEq, exists_eq_left', true_or, or_true, or_false, false_or, reduceCtorEq, Prod.mk.injEq, Sum.inl.injEq, and_self, false_and, and_false, not_true_eq_false, not_false_eq_true, false_implies, true_implies, sm_r, Int.add_zero, Int.zero_add, wI_wsI, wS_wsI, wR_wsI, wI_wCp, wS_wCp, wR_wCp, Nat.reduceEqDiff, reduceIte, sT_iff, sT_iffC, wIf_ne, ne_eq, Bool.false_or, Bool.true_or, Bool.or_false, Bool.or_true, Bool.or_self, tb_X8_ends, p_X8_isReady, f_X8_isReady, p_X8_ends, f_X8_ends, sS_154 hT, sR_154_0 hT, sS_155 hT, sR_154_7 hT, sS_160 hT, hT, hO, orI_def, p2_def]
      repeat' (first | with_reducible assumption | with_reducible refine And.intro ?_ ?_ | intro _)
      all_goals first
        | omega
        | assumption
        | rfl
        | (split <;> omega)
        | (have k9 := ih (by omega)
           (repeat' split at k9) <;> first | exact k9 | omega)
        | (have k9 := ih2 (by omega)
           (repeat' split at k9) <;> first | exact k9 | omega)
        | exact he (by omega)
        | (congr 1; omega)
        | (rw [if_pos (by omega)] at he; exact he)
        | exact hD1 (by omega)
        | exact hD2 (by omega)
        | grind
        | skip
    · have ih := fun hlt => ih hlt hbk
      clear he0 he1
      have hx0 : i = wI w 155 1 → mEnd w t (wI w 155 1) = 1 := fun e => by rw [← e]; exact hE
      have hx1 : i = wI w 155 1 → mLeft w (wI w 155 1) = mLeft w i := fun e => by rw [e]
      unfold mBk at hbk
      refine hZ (fun u => Nat.beq u 4) 14 4 _ _ _ _ _ ?_
      simp only [sm_run, sm_blk, sm_get, sm_ent, sm_ents, sm_wds, sm_wd, sm_nl, sm_pop, sm_back, sm_cases, oK, oLK, oL, oI, oA, oJ, oIs, oAs, oJs, oInc, oAdd, oSub, oMul, oDiv, oRem, oNeg, oAnd, oOr, oShl, oI2c, oI2l, oL2i, oLand, oLor, oLshl, oLshr, oLushr, oLcmp, oDup, oDup2, oPop, oGo, oFg, oEq, oNe, oLt, oGe, oGt, oLe, oEq0, oNe0, oLt0, oGe0, oGt0, oLe0, oSw, oGi, oGr, oPi, oPz, oPr, oLen, oIl, oZl, oCl, oRl, oIst, oZst, oCst, oRst, oCopy, oNew, oNa, oNa2, oObj, oCs, oCv, oCi, oIr, oZr, oVr, Nat.beq, List.getElem?_cons_zero, List.getElem?_cons_succ, List.set_cons_zero, List.set_cons_succ, List.length_cons, List.length_nil, List.nil_append, List.cons_append, List.append_nil, List.replicate_succ, List.replicate_zero, Nat.reduceAdd, Nat.reduceSub, Nat.reduceLT, Nat.reduceLeDiff, Nat.reduceBEq, true_and, and_true, Nat.zero_add, Nat.add_zero, Nat.le_refl, Option.some.injEq, exists_eq_left', true_or, or_true, or_false, false_or, reduceCtorEq, Prod.mk.injEq, Sum.inl.injEq, and_self, false_and, and_false, not_true_eq_false, not_false_eq_true, false_implies, true_implies, sm_r, Int.add_zero, Int.zero_add, wI_wsI, wS_wsI, wR_wsI, wI_wCp, wS_wCp, wR_wCp, Nat.reduceEqDiff, reduceIte, sT_iff, sT_iffC, wIf_ne, ne_eq, Bool.false_or, Bool.true_or, Bool.or_false, Bool.or_true, Bool.or_self, tb_X8_ends, p_X8_isReady, f_X8_isReady, p_X8_ends, f_X8_ends, sS_154 hT, sR_154_0 hT, sS_155 hT, sR_154_7 hT, sS_160 hT, hT, hO, orI_def, p2_def]
      repeat' (first | with_reducible assumption | with_reducible refine And.intro ?_ ?_ | intro _)
      all_goals first
        | omega
        | assumption
        | rfl
        | (split <;> omega)
        | (have k9 := ih (by omega)
           (repeat' split at k9) <;> first | exact k9 | omega)
        | (have k9 := ih2 (by omega)
           (repeat' split at k9) <;> first | exact k9 | omega)
        | exact he (by omega)
        | (congr 1; omega)
        | (rw [if_pos (by omega)] at he; exact he)
        | exact hD1 (by omega)
        | exact hD2 (by omega)
        | grind
        | skip
    )
  have h1 := hl 0 ⟨Int.le_refl _, hm.1, rfl⟩
  refine hZ (fun u => Nat.beq u 4) 14 0 _ _ _ _ _ ?_
  simp only [sm_run, sm_blk, sm_get, sm_ent, sm_ents, sm_wds, sm_wd, sm_nl, sm_pop, sm_back, sm_cases, oK, oLK, oL, oI, oA, oJ, oIs, oAs, oJs, oInc, oAdd, oSub, oMul, oDiv, oRem, oNeg, oAnd, oOr, oShl, oI2c, oI2l, oL2i, oLand, oLor, oLshl, oLshr, oLushr, oLcmp, oDup, oDup2, oPop, oGo, oFg, oEq, oNe, oLt, oGe, oGt, oLe, oEq0, oNe0, oLt0, oGe0, oGt0, oLe0, oSw, oGi, oGr, oPi, oPz, oPr, oLen, oIl, oZl, oCl, oRl, oIst, oZst, oCst, oRst, oCopy, oNew, oNa, oNa2, oObj, oCs, oCv, oCi, oIr, oZr, oVr, Nat.beq, List.getElem?_cons_zero, List.getElem?_cons_succ, List.set_cons_zero, List.set_cons_succ, List.length_cons, List.length_nil, List.nil_append, List.cons_append, List.append_nil, List.replicate_succ, List.replicate_zero, Nat.reduceAdd, Nat.reduceSub, Nat.reduceLT, Nat.reduceLeDiff, Nat.reduceBEq, true_and, and_true, Nat.zero_add, Nat.add_zero, Nat.le_refl, Option.some.injEq, exists_eq_left', true_or, or_true, or_false, false_or, reduceCtorEq, Prod.mk.injEq, Sum.inl.injEq, and_self, false_and, and_false, not_true_eq_false, not_false_eq_true, false_implies, true_implies, sm_r, Int.add_zero, Int.zero_add, wI_wsI, wS_wsI, wR_wsI, wI_wCp, wS_wCp, wR_wCp, Nat.reduceEqDiff, reduceIte, sT_iff, sT_iffC, wIf_ne, ne_eq, Bool.false_or, Bool.true_or, Bool.or_false, Bool.or_true, Bool.or_self, tb_X8_ends, p_X8_isReady, f_X8_isReady, p_X8_ends, f_X8_ends]
  repeat' (first | with_reducible assumption | with_reducible refine And.intro ?_ ?_ | intro _)
  all_goals first
    | omega
    | assumption
    | rfl
    | (split <;> omega)
    | (have k9 := ih (by omega)
       (repeat' split at k9) <;> first | exact k9 | omega)
    | (have k9 := ih2 (by omega)
       (repeat' split at k9) <;> first | exact k9 | omega)
    | exact he (by omega)
    | (congr 1; omega)
    | (rw [if_pos (by omega)] at he; exact he)
    | exact hD1 (by omega)
    | exact hD2 (by omega)
    | skip

theorem met_X8_ends (l : Launch) : sm_Met l yX8_ends cX8_ends 4 (some .boolean) 3 0 0 p_X8_ends f_X8_ends := sm_met 2 (Or.inr (Or.inr ⟨rfl, rfl⟩)) (by decide +kernel) (sn_X8_ends l) ok_X8_ends
end
section
/-! THE REFERENCE: a day begins; whether it is run already; small moves of the line -/
def mB1 (k : Int) (w : sm_W) : sm_W := wsI (wsI (wsI (wsI (wsI (wsI w 163 k (-6)) 164 k (-6)) 165 k (-6)) 166 k (-6)) 167 k (-6)) 168 k 0
def mB2 (k : Int) (w : sm_W) : sm_W := wsI w 169 k 0
def mB3 (x : Int) (w : sm_W) : sm_W := wsI (wsI (wsI w 160 x 0) 161 x (wI w 155 (17 + 5 * x))) 162 x 0
def mBegin1 (w : sm_W) : sm_W := itI mB1 w 64
def mBegin2 (w : sm_W) : sm_W := itI mB2 (mBegin1 w) 32
def mBegin3 (w : sm_W) : sm_W := itI mB3 (mBegin2 w) (wI w 155 1)
def mBegin (w : sm_W) : sm_W := wsI (mBegin3 w) 154 18 0
theorem mB1_keep (w : sm_W) (n : Int) (h : 0 ≤ n) : wI (itI mB1 w n) 155 = wI w 155 ∧ (sT w → sT (itI mB1 w n)) :=
  itI_ind (f := mB1) (fun _ r => wI r 155 = wI w 155 ∧ (sT w → sT r)) n ⟨rfl, id⟩ (fun i r _ _ hr => ⟨hr.1, hr.2⟩) n h (Int.le_refl _)
theorem mB2_keep (w : sm_W) (n : Int) (h : 0 ≤ n) : wI (itI mB2 w n) 155 = wI w 155 ∧ (sT w → sT (itI mB2 w n)) :=
  itI_ind (f := mB2) (fun _ r => wI r 155 = wI w 155 ∧ (sT w → sT r)) n ⟨rfl, id⟩ (fun i r _ _ hr => ⟨hr.1, hr.2⟩) n h (Int.le_refl _)
theorem mB3_keep (w : sm_W) (n : Int) (h : 0 ≤ n) : wI (itI mB3 w n) 155 = wI w 155 ∧ (sT w → sT (itI mB3 w n)) :=
  itI_ind (f := mB3) (fun _ r => wI r 155 = wI w 155 ∧ (sT w → sT r)) n ⟨rfl, id⟩ (fun i r _ _ hr => ⟨hr.1, hr.2⟩) n h (Int.le_refl _)
def p_X8_beginDay : List sm_V → sm_W → Prop
  | [.inr (.inl m)], w => m = 154 ∧ mOK w
  | _, _ => False
def f_X8_beginDay : sm_F
  | [.inr (.inl m)], w => (none, mBegin w)
  | _, w => (none, w)
def tb_X8_beginDay : List (Nat × List sm_O) := [(0, [oK 0, oIs 1, oGo 2]),
  (2, [oI 1, oK 64, oGe 61, oA 0, oGr 8 30 10, oI 1, oK (-6), oIst, oA 0, oGr 8 30 11, oI 1, oK (-6), oIst, oA 0, oGr 8 30 12, oI 1, oK (-6), oIst, oA 0, oGr 8 30 13, oI 1, oK (-6), oIst, oA 0, oGr 8 30 14, oI 1, oK (-6), oIst, oA 0, oGr 8 30 15, oI 1, oK 0, oIst, oInc 1 1, oGo 2]),
  (61, [oK 0, oIs 1, oGo 63]),
  (63, [oI 1, oK 32, oGe 82, oA 0, oGr 8 30 16, oI 1, oK 0, oIst, oInc 1 1, oGo 63]),
  (82, [oK 0, oIs 1, oGo 84]),
  (84, [oI 1, oA 0, oGr 8 30 0, oK 1, oIl, oGe 126, oA 0, oGr 8 30 7, oI 1, oK 0, oIst, oA 0, oGr 8 30 8, oI 1, oA 0, oI 1, oK 0, oCv 8 30 p_X8_of f_X8_of 0 0 3, oIst, oA 0, oGr 8 30 9, oI 1, oK 0, oIst, oInc 1 1, oGo 84]),
  (126, [oA 0, oK 0, oPi 8 30 18, oVr])]
set_option maxRecDepth 100000 in
theorem sb_X8_beginDay_0 (l : Launch) : sm_SndB l RX8 "beginDay" cX8_beginDay 2 0 1 0 [oK 0, oIs 1, oGo 2] := sb_cons (sd_iconst (by decide +kernel : decode cX8_beginDay 0 = .ok (.iconst 0, 1)) ⟨by decide, by decide⟩) (sb_cons (sd_istore_n (by decide +kernel : decode cX8_beginDay 1 = .ok (.istore_n 1, 1)) rfl) (sb_cons (sd_fall (x := 0)) sb_nil))
set_option maxRecDepth 100000 in
theorem sb_X8_beginDay_2 (l : Launch) : sm_SndB l RX8 "beginDay" cX8_beginDay 2 0 1 2 [oI 1, oK 64, oGe 61, oA 0, oGr 8 30 10, oI 1, oK (-6), oIst, oA 0, oGr 8 30 11, oI 1, oK (-6), oIst, oA 0, oGr 8 30 12, oI 1, oK (-6), oIst, oA 0, oGr 8 30 13, oI 1, oK (-6), oIst, oA 0, oGr 8 30 14, oI 1, oK (-6), oIst, oA 0, oGr 8 30 15, oI 1, oK 0, oIst, oInc 1 1, oGo 2] := sb_cons (sd_iload_n (by decide +kernel : decode cX8_beginDay 2 = .ok (.iload_n 1, 1)) rfl) (sb_cons (sd_bipush (by decide +kernel : decode cX8_beginDay 3 = .ok (.bipush 64, 2)) ⟨by decide, by decide⟩ (by decide)) (sb_cons (sd_ge (by decide +kernel : decode cX8_beginDay 5 = .ok (.if_icmp .ge 56, 3)) (by decide)) (sb_cons (sd_aload_n (by decide +kernel : decode cX8_beginDay 8 = .ok (.aload_n 0, 1)) rfl) (sb_cons (sd_getr (k := 10) kl_8 (by decide) rfl wm_683 (by decide +kernel : decode cX8_beginDay 9 = .ok (.getfield 35, 3))) (sb_cons (sd_iload_n (by decide +kernel : decode cX8_beginDay 12 = .ok (.iload_n 1, 1)) rfl) (sb_cons (sd_bipush (by decide +kernel : decode cX8_beginDay 13 = .ok (.bipush (-6), 2)) ⟨by decide, by decide⟩ (by decide)) (sb_cons (sd_iastore (by decide +kernel : decode cX8_beginDay 15 = .ok (.iastore, 1))) (sb_cons (sd_aload_n (by decide +kernel : decode cX8_beginDay 16 = .ok (.aload_n 0, 1)) rfl) (sb_cons (sd_getr (k := 11) kl_8 (by decide) rfl wm_684 (by decide +kernel : decode cX8_beginDay 17 = .ok (.getfield 38, 3))) (sb_cons (sd_iload_n (by decide +kernel : decode cX8_beginDay 20 = .ok (.iload_n 1, 1)) rfl) (sb_cons (sd_bipush (by decide +kernel : decode cX8_beginDay 21 = .ok (.bipush (-6), 2)) ⟨by decide, by decide⟩ (by decide)) (sb_cons (sd_iastore (by decide +kernel : decode cX8_beginDay 23 = .ok (.iastore, 1))) (sb_cons (sd_aload_n (by decide +kernel : decode cX8_beginDay 24 = .ok (.aload_n 0, 1)) rfl) (sb_cons (sd_getr (k := 12) kl_8 (by decide) rfl wm_685 (by decide +kernel : decode cX8_beginDay 25 = .ok (.getfield 41, 3))) (sb_cons (sd_iload_n (by decide +kernel : decode cX8_beginDay 28 = .ok (.iload_n 1, 1)) rfl) (sb_cons (sd_bipush (by decide +kernel : decode cX8_beginDay 29 = .ok (.bipush (-6), 2)) ⟨by decide, by decide⟩ (by decide)) (sb_cons (sd_iastore (by decide +kernel : decode cX8_beginDay 31 = .ok (.iastore, 1))) (sb_cons (sd_aload_n (by decide +kernel : decode cX8_beginDay 32 = .ok (.aload_n 0, 1)) rfl) (sb_cons (sd_getr (k := 13) kl_8 (by decide) rfl wm_686 (by decide +kernel : decode cX8_beginDay 33 = .ok (.getfield 44, 3))) (sb_cons (sd_iload_n (by decide +kernel : decode cX8_beginDay 36 = .ok (.iload_n 1, 1)) rfl) (sb_cons (sd_bipush (by decide +kernel : decode cX8_beginDay 37 = .ok (.bipush (-6), 2)) ⟨by decide, by decide⟩ (by decide)) (sb_cons (sd_iastore (by decide +kernel : decode cX8_beginDay 39 = .ok (.iastore, 1))) (sb_cons (sd_aload_n (by decide +kernel : decode cX8_beginDay 40 = .ok (.aload_n 0, 1)) rfl) (sb_cons (sd_getr (k := 14) kl_8 (by decide) rfl wm_687 (by decide +kernel : decode cX8_beginDay 41 = .ok (.getfield 47, 3))) (sb_cons (sd_iload_n (by decide +kernel : decode cX8_beginDay 44 = .ok (.iload_n 1, 1)) rfl) (sb_cons (sd_bipush (by decide +kernel : decode cX8_beginDay 45 = .ok (.bipush (-6), 2)) ⟨by decide, by decide⟩ (by decide)) (sb_cons (sd_iastore (by decide +kernel : decode cX8_beginDay 47 = .ok (.iastore, 1))) (sb_cons (sd_aload_n (by decide +kernel : decode cX8_beginDay 48 = .ok (.aload_n 0, 1)) rfl) (sb_cons (sd_getr (k := 15) kl_8 (by decide) rfl wm_688 (by decide +kernel : decode cX8_beginDay 49 = .ok (.getfield 50, 3))) (sb_cons (sd_iload_n (by decide +kernel : decode cX8_beginDay 52 = .ok (.iload_n 1, 1)) rfl) (sb_cons (sd_iconst (by decide +kernel : decode cX8_beginDay 53 = .ok (.iconst 0, 1)) ⟨by decide, by decide⟩) (sb_cons (sd_iastore (by decide +kernel : decode cX8_beginDay 54 = .ok (.iastore, 1))) (sb_cons (sd_iinc (by decide +kernel : decode cX8_beginDay 55 = .ok (.iinc 1 1, 3))) (sb_cons (sd_goto (x := 0) (by decide +kernel : decode cX8_beginDay 58 = .ok (.goto (-56), 3)) (by decide)) sb_nil))))))))))))))))))))))))))))))))))
set_option maxRecDepth 100000 in
theorem sb_X8_beginDay_61 (l : Launch) : sm_SndB l RX8 "beginDay" cX8_beginDay 2 0 1 61 [oK 0, oIs 1, oGo 63] := sb_cons (sd_iconst (by decide +kernel : decode cX8_beginDay 61 = .ok (.iconst 0, 1)) ⟨by decide, by decide⟩) (sb_cons (sd_istore_n (by decide +kernel : decode cX8_beginDay 62 = .ok (.istore_n 1, 1)) rfl) (sb_cons (sd_fall (x := 0)) sb_nil))
set_option maxRecDepth 100000 in
theorem sb_X8_beginDay_63 (l : Launch) : sm_SndB l RX8 "beginDay" cX8_beginDay 2 0 1 63 [oI 1, oK 32, oGe 82, oA 0, oGr 8 30 16, oI 1, oK 0, oIst, oInc 1 1, oGo 63] := sb_cons (sd_iload_n (by decide +kernel : decode cX8_beginDay 63 = .ok (.iload_n 1, 1)) rfl) (sb_cons (sd_bipush (by decide +kernel : decode cX8_beginDay 64 = .ok (.bipush 32, 2)) ⟨by decide, by decide⟩ (by decide)) (sb_cons (sd_ge (by decide +kernel : decode cX8_beginDay 66 = .ok (.if_icmp .ge 16, 3)) (by decide)) (sb_cons (sd_aload_n (by decide +kernel : decode cX8_beginDay 69 = .ok (.aload_n 0, 1)) rfl) (sb_cons (sd_getr (k := 16) kl_8 (by decide) rfl wm_689 (by decide +kernel : decode cX8_beginDay 70 = .ok (.getfield 53, 3))) (sb_cons (sd_iload_n (by decide +kernel : decode cX8_beginDay 73 = .ok (.iload_n 1, 1)) rfl) (sb_cons (sd_iconst (by decide +kernel : decode cX8_beginDay 74 = .ok (.iconst 0, 1)) ⟨by decide, by decide⟩) (sb_cons (sd_iastore (by decide +kernel : decode cX8_beginDay 75 = .ok (.iastore, 1))) (sb_cons (sd_iinc (by decide +kernel : decode cX8_beginDay 76 = .ok (.iinc 1 1, 3))) (sb_cons (sd_goto (x := 0) (by decide +kernel : decode cX8_beginDay 79 = .ok (.goto (-16), 3)) (by decide)) sb_nil)))))))))
set_option maxRecDepth 100000 in
theorem sb_X8_beginDay_82 (l : Launch) : sm_SndB l RX8 "beginDay" cX8_beginDay 2 0 1 82 [oK 0, oIs 1, oGo 84] := sb_cons (sd_iconst (by decide +kernel : decode cX8_beginDay 82 = .ok (.iconst 0, 1)) ⟨by decide, by decide⟩) (sb_cons (sd_istore_n (by decide +kernel : decode cX8_beginDay 83 = .ok (.istore_n 1, 1)) rfl) (sb_cons (sd_fall (x := 0)) sb_nil))
set_option maxRecDepth 100000 in
theorem sb_X8_beginDay_84 (l : Launch) : sm_SndB l RX8 "beginDay" cX8_beginDay 2 0 1 84 [oI 1, oA 0, oGr 8 30 0, oK 1, oIl, oGe 126, oA 0, oGr 8 30 7, oI 1, oK 0, oIst, oA 0, oGr 8 30 8, oI 1, oA 0, oI 1, oK 0, oCv 8 30 p_X8_of f_X8_of 0 0 3, oIst, oA 0, oGr 8 30 9, oI 1, oK 0, oIst, oInc 1 1, oGo 84] := sb_cons (sd_iload_n (by decide +kernel : decode cX8_beginDay 84 = .ok (.iload_n 1, 1)) rfl) (sb_cons (sd_aload_n (by decide +kernel : decode cX8_beginDay 85 = .ok (.aload_n 0, 1)) rfl) (sb_cons (sd_getr (k := 0) kl_8 (by decide) rfl wm_673 (by decide +kernel : decode cX8_beginDay 86 = .ok (.getfield 7, 3))) (sb_cons (sd_iconst (by decide +kernel : decode cX8_beginDay 89 = .ok (.iconst 1, 1)) ⟨by decide, by decide⟩) (sb_cons (sd_iaload (by decide +kernel : decode cX8_beginDay 90 = .ok (.iaload, 1))) (sb_cons (sd_ge (by decide +kernel : decode cX8_beginDay 91 = .ok (.if_icmp .ge 35, 3)) (by decide)) (sb_cons (sd_aload_n (by decide +kernel : decode cX8_beginDay 94 = .ok (.aload_n 0, 1)) rfl) (sb_cons (sd_getr (k := 7) kl_8 (by decide) rfl wm_680 (by decide +kernel : decode cX8_beginDay 95 = .ok (.getfield 26, 3))) (sb_cons (sd_iload_n (by decide +kernel : decode cX8_beginDay 98 = .ok (.iload_n 1, 1)) rfl) (sb_cons (sd_iconst (by decide +kernel : decode cX8_beginDay 99 = .ok (.iconst 0, 1)) ⟨by decide, by decide⟩) (sb_cons (sd_iastore (by decide +kernel : decode cX8_beginDay 100 = .ok (.iastore, 1))) (sb_cons (sd_aload_n (by decide +kernel : decode cX8_beginDay 101 = .ok (.aload_n 0, 1)) rfl) (sb_cons (sd_getr (k := 8) kl_8 (by decide) rfl wm_681 (by decide +kernel : decode cX8_beginDay 102 = .ok (.getfield 29, 3))) (sb_cons (sd_iload_n (by decide +kernel : decode cX8_beginDay 105 = .ok (.iload_n 1, 1)) rfl) (sb_cons (sd_aload_n (by decide +kernel : decode cX8_beginDay 106 = .ok (.aload_n 0, 1)) rfl) (sb_cons (sd_iload_n (by decide +kernel : decode cX8_beginDay 107 = .ok (.iload_n 1, 1)) rfl) (sb_cons (sd_iconst (by decide +kernel : decode cX8_beginDay 108 = .ok (.iconst 0, 1)) ⟨by decide, by decide⟩) (sb_cons (sd_callv (n := 2) (met_X8_of l) (by decide) (by decide) wm_778 wm_776 wm_10 ⟨by decide +kernel, by decide +kernel, by decide +kernel⟩ kl_8 wm_777 wm_1113 (by decide +kernel : decode cX8_beginDay 109 = .ok (.invokevirtual 78, 3))) (sb_cons (sd_iastore (by decide +kernel : decode cX8_beginDay 112 = .ok (.iastore, 1))) (sb_cons (sd_aload_n (by decide +kernel : decode cX8_beginDay 113 = .ok (.aload_n 0, 1)) rfl) (sb_cons (sd_getr (k := 9) kl_8 (by decide) rfl wm_682 (by decide +kernel : decode cX8_beginDay 114 = .ok (.getfield 32, 3))) (sb_cons (sd_iload_n (by decide +kernel : decode cX8_beginDay 117 = .ok (.iload_n 1, 1)) rfl) (sb_cons (sd_iconst (by decide +kernel : decode cX8_beginDay 118 = .ok (.iconst 0, 1)) ⟨by decide, by decide⟩) (sb_cons (sd_iastore (by decide +kernel : decode cX8_beginDay 119 = .ok (.iastore, 1))) (sb_cons (sd_iinc (by decide +kernel : decode cX8_beginDay 120 = .ok (.iinc 1 1, 3))) (sb_cons (sd_goto (x := 0) (by decide +kernel : decode cX8_beginDay 123 = .ok (.goto (-39), 3)) (by decide)) sb_nil)))))))))))))))))))))))))
set_option maxRecDepth 100000 in
theorem sb_X8_beginDay_126 (l : Launch) : sm_SndB l RX8 "beginDay" cX8_beginDay 2 0 1 126 [oA 0, oK 0, oPi 8 30 18, oVr] := sb_cons (sd_aload_n (by decide +kernel : decode cX8_beginDay 126 = .ok (.aload_n 0, 1)) rfl) (sb_cons (sd_iconst (by decide +kernel : decode cX8_beginDay 127 = .ok (.iconst 0, 1)) ⟨by decide, by decide⟩) (sb_cons (sd_puti (k := 18) kl_8 (by decide) rfl (Or.inl rfl) wm_691 (by decide +kernel : decode cX8_beginDay 128 = .ok (.putfield 92, 3))) (sb_cons (sd_return (x := 0) rfl (by decide +kernel : decode cX8_beginDay 131 = .ok (.return_, 1))) sb_nil)))
theorem sn_X8_beginDay (l : Launch) : sm_SndT l RX8 "beginDay" cX8_beginDay 2 0 1 tb_X8_beginDay := st_cons (sb_X8_beginDay_0 l) (st_cons (sb_X8_beginDay_2 l) (st_cons (sb_X8_beginDay_61 l) (st_cons (sb_X8_beginDay_63 l) (st_cons (sb_X8_beginDay_82 l) (st_cons (sb_X8_beginDay_84 l) (st_cons (sb_X8_beginDay_126 l) (st_nil)))))))
set_option maxRecDepth 100000 in
set_option maxHeartbeats 4000000 in
theorem ok_X8_beginDay : sm_Ok tb_X8_beginDay 2 0 0 p_X8_beginDay f_X8_beginDay := by
  intro as w hp ha hw
  match as, hp with
  | [.inr (.inl m)], hp =>
  refine ⟨Nat.le_of_ble_eq_true rfl, fun Z hZ => ?_⟩
  obtain ⟨rfl, hT, hv⟩ := hp
  have hm := vOK_many hv
  have k1 := mB1_keep w 64 (by decide)
  have k2 := mB2_keep (mBegin1 w) 32 (by decide)
  have e1 : wI (mBegin1 w) 155 = wI w 155 := k1.1
  have e2 : wI (mBegin2 w) 155 = wI w 155 := by rw [← e1]; exact k2.1
  have hT1 : sT (mBegin1 w) := k1.2 hT
  have hT2 : sT (mBegin2 w) := k2.2 hT1
  have l3 := sm_loopI Z 84 0 (wI w 155 1) (fun i => [some (.inr (.inl 154)), some (.inl i)]) (fun i => itI mB3 (mBegin2 w) i) 0 0 hm.1 (fun i h0 h1 ih => by
    have hk := mB3_keep (mBegin2 w) i h0
    rw [itI_s _ _ h0] at ih
    have he : i = wI w 155 1 → wsI (itI mB3 (mBegin2 w) i) 154 18 0 = mBegin w := fun e => by rw [e]; rfl
    have hu : wI (itI mB3 (mBegin2 w) i) 155 = wI w 155 := hk.1.trans e2
    have hT := hk.2 hT2
    generalize itI mB3 (mBegin2 w) i = u at *
    have hat1 : wI u 155 1 = wI w 155 1 := by rw [hu]
    unfold mB3 at ih
    refine hZ (fun u => Nat.beq u 2 || Nat.beq u 63 || Nat.beq u 84) 14 84 _ _ _ _ _ ?_
    simp only [sm_run, sm_blk, sm_get, sm_ent, sm_ents, sm_wds, sm_wd, sm_nl, sm_pop, sm_back, sm_cases, oK, oLK, oL, oI, oA, oJ, oIs, oAs, oJs, oInc, oAdd, oSub, oMul, oDiv, oRem, oNeg, oAnd, oOr, oShl, oI2c, oI2l, oL2i, oLand, oLor, oLshl, oLshr, oLushr, oLcmp, oDup, oDup2, oPop, oGo, oFg, oEq, oNe, oLt, oGe, oGt, oLe, oEq0, oNe0, oLt0, oGe0, oGt0, oLe0, oSw, oGi, oGr, oPi, oPz, oPr, oLen, oIl, oZl, oCl, oRl, oIst, oZst, oCst, oRst, oCopy, oNew, oNa, oNa2, oObj, oCs, oCv, oCi, oIr, oZr, oVr, Nat.beq, List.getElem?_cons_zero, List.getElem?_cons_succ, List.set_cons_zero, List.set_cons_succ, List.length_cons, List.length_nil, List.nil_append, List.cons_append, List.append_nil, List.replicate_succ, List.replicate_zero, Nat.reduceAdd, Nat.reduceSub, Nat.reduceLT, Nat.reduceLeDiff, Nat.reduceBEq, true_and, and_true, Nat.zero_add, Nat.add_zero, Nat.le_refl, Option.some.injEq, exists_eq_left', true_or, or_true, or_false, false_or, reduceCtorEq, Prod.mk.injEq, Sum.inl.injEq, and_self, false_and, and_false, not_true_eq_false, not_false_eq_true, false_implies, true_implies, sm_r, Int.add_zero, Int.zero_add, wI_wsI, wS_wsI, wR_wsI, wI_wCp, wS_wCp, wR_wCp, Nat.reduceEqDiff, reduceIte, sT_iff, sT_iffC, wIf_ne, ne_eq, Bool.false_or, Bool.true_or, Bool.or_false, Bool.or_true, Bool.or_self, tb_X8_beginDay, p_X8_of, f_X8_of, p_X8_beginDay, f_X8_beginDay, sS_154 hT, sR_154_0 hT, sS_155 hT, sR_154_7 hT, sS_160 hT, sR_154_8 hT, sS_161 hT, sR_154_9 hT, sS_162 hT, hT, sT_iff]
    repeat' (first | with_reducible assumption | with_reducible refine And.intro ?_ ?_ | intro _)
    all_goals first
      | omega
      | assumption
      | rfl
      | (split <;> omega)
      | (have k9 := ih (by omega)
         (repeat' split at k9) <;> first | exact k9 | omega)
      | (have k9 := ih2 (by omega)
         (repeat' split at k9) <;> first | exact k9 | omega)
      | exact he (by omega)
      | (congr 1; omega)
      | (rw [if_pos (by omega)] at he; exact he)
      | exact hD1 (by omega)
      | exact hD2 (by omega)
      | grind
      | skip
    )
  have l2 := sm_loopI Z 63 0 32 (fun i => [some (.inr (.inl 154)), some (.inl i)]) (fun i => itI mB2 (mBegin1 w) i) 0 0 (by decide) (fun i h0 h1 ih => by
    have hk := mB2_keep (mBegin1 w) i h0
    rw [itI_s _ _ h0] at ih
    have he : i = 32 → itI mB2 (mBegin1 w) i = mBegin2 w := fun e => by rw [e]; rfl
    have hT := hk.2 hT1
    have ih2 : i = 32 → Z 84 [some (.inr (.inl 154)), some (.inl 0)] [] (itI mB2 (mBegin1 w) i) 0 0 := fun e => by rw [he e]; exact l3
    generalize itI mB2 (mBegin1 w) i = u at *
    unfold mB2 at ih
    refine hZ (fun u => Nat.beq u 2 || Nat.beq u 63 || Nat.beq u 84) 14 63 _ _ _ _ _ ?_
    simp only [sm_run, sm_blk, sm_get, sm_ent, sm_ents, sm_wds, sm_wd, sm_nl, sm_pop, sm_back, sm_cases, oK, oLK, oL, oI, oA, oJ, oIs, oAs, oJs, oInc, oAdd, oSub, oMul, oDiv, oRem, oNeg, oAnd, oOr, oShl, oI2c, oI2l, oL2i, oLand, oLor, oLshl, oLshr, oLushr, oLcmp, oDup, oDup2, oPop, oGo, oFg, oEq, oNe, oLt, oGe, oGt, oLe, oEq0, oNe0, oLt0, oGe0, oGt0, oLe0, oSw, oGi, oGr, oPi, oPz, oPr, oLen, oIl, oZl, oCl, oRl, oIst, oZst, oCst, oRst, oCopy, oNew, oNa, oNa2, oObj, oCs, oCv, oCi, oIr, oZr, oVr, Nat.beq, List.getElem?_cons_zero, List.getElem?_cons_succ, List.set_cons_zero, List.set_cons_succ, List.length_cons, List.length_nil, List.nil_append, List.cons_append, List.append_nil, List.replicate_succ, List.replicate_zero, Nat.reduceAdd, Nat.reduceSub, Nat.reduceLT, Nat.reduceLeDiff, Nat.reduceBEq, true_and, and_true, Nat.zero_add, Nat.add_zero, Nat.le_refl, Option.some.injEq, exists_eq_left', true_or, or_true, or_false, false_or, reduceCtorEq, Prod.mk.injEq, Sum.inl.injEq, and_self, false_and, and_false, not_true_eq_false, not_false_eq_true, false_implies, true_implies, sm_r, Int.add_zero, Int.zero_add, wI_wsI, wS_wsI, wR_wsI, wI_wCp, wS_wCp, wR_wCp, Nat.reduceEqDiff, reduceIte, sT_iff, sT_iffC, wIf_ne, ne_eq, Bool.false_or, Bool.true_or, Bool.or_false, Bool.or_true, Bool.or_self, tb_X8_beginDay, p_X8_of, f_X8_of, p_X8_beginDay, f_X8_beginDay, sS_154 hT, sR_154_16 hT, sS_169 hT]
    repeat' (first | with_reducible assumption | with_reducible refine And.intro ?_ ?_ | intro _)
    all_goals first
      | omega
      | assumption
      | rfl
      | (split <;> omega)
      | (have k9 := ih (by omega)
         (repeat' split at k9) <;> first | exact k9 | omega)
      | (have k9 := ih2 (by omega)
         (repeat' split at k9) <;> first | exact k9 | omega)
      | exact he (by omega)
      | (congr 1; omega)
      | (rw [if_pos (by omega)] at he; exact he)
      | exact hD1 (by omega)
      | exact hD2 (by omega)
      | grind
      | skip
    )
  have l1 := sm_loopI Z 2 0 64 (fun i => [some (.inr (.inl 154)), some (.inl i)]) (fun i => itI mB1 w i) 0 0 (by decide) (fun i h0 h1 ih => by
    have hk := mB1_keep w i h0
    rw [itI_s _ _ h0] at ih
    have he : i = 64 → itI mB1 w i = mBegin1 w := fun e => by rw [e]; rfl
    have hT := hk.2 hT
    have ih2 : i = 64 → Z 63 [some (.inr (.inl 154)), some (.inl 0)] [] (itI mB1 w i) 0 0 := fun e => by rw [he e]; exact l2
    generalize itI mB1 w i = u at *
    unfold mB1 at ih
    refine hZ (fun u => Nat.beq u 2 || Nat.beq u 63 || Nat.beq u 84) 14 2 _ _ _ _ _ ?_
    simp only [sm_run, sm_blk, sm_get, sm_ent, sm_ents, sm_wds, sm_wd, sm_nl, sm_pop, sm_back, sm_cases, oK, oLK, oL, oI, oA, oJ, oIs, oAs, oJs, oInc, oAdd, oSub, oMul, oDiv, oRem, oNeg, oAnd, oOr, oShl, oI2c, oI2l, oL2i, oLand, oLor, oLshl, oLshr, oLushr, oLcmp, oDup, oDup2, oPop, oGo, oFg, oEq, oNe, oLt, oGe, oGt, oLe, oEq0, oNe0, oLt0, oGe0, oGt0, oLe0, oSw, oGi, oGr, oPi, oPz, oPr, oLen, oIl, oZl, oCl, oRl, oIst, oZst, oCst, oRst, oCopy, oNew, oNa, oNa2, oObj, oCs, oCv, oCi, oIr, oZr, oVr, Nat.beq, List.getElem?_cons_zero, List.getElem?_cons_succ, List.set_cons_zero, List.set_cons_succ, List.length_cons, List.length_nil, List.nil_append, List.cons_append, List.append_nil, List.replicate_succ, List.replicate_zero, Nat.reduceAdd, Nat.reduceSub, Nat.reduceLT, Nat.reduceLeDiff, Nat.reduceBEq, true_and, and_true, Nat.zero_add, Nat.add_zero, Nat.le_refl, Option.some.injEq, exists_eq_left', true_or, or_true, or_false, false_or, reduceCtorEq, Prod.mk.injEq, Sum.inl.injEq, and_self, false_and, and_false, not_true_eq_false, not_false_eq_true, false_implies, true_implies, sm_r, Int.add_zero, Int.zero_add, wI_wsI, wS_wsI, wR_wsI, wI_wCp, wS_wCp, wR_wCp, Nat.reduceEqDiff, reduceIte, sT_iff, sT_iffC, wIf_ne, ne_eq, Bool.false_or, Bool.true_or, Bool.or_false, Bool.or_true, Bool.or_self, tb_X8_beginDay, p_X8_of, f_X8_of, p_X8_beginDay, f_X8_beginDay, sS_154 hT, sR_154_10 hT, sS_163 hT, sR_154_11 hT, sS_164 hT, sR_154_12 hT, sS_165 hT, sR_154_13 hT, sS_166 hT, sR_154_14 hT, sS_167 hT, sR_154_15 hT, sS_168 hT]
    repeat' (first | with_reducible assumption | with_reducible refine And.intro ?_ ?_ | intro _)
    all_goals first
      | omega
      | assumption
      | rfl
      | (split <;> omega)
      | (have k9 := ih (by omega)
         (repeat' split at k9) <;> first | exact k9 | omega)
      | (have k9 := ih2 (by omega)
         (repeat' split at k9) <;> first | exact k9 | omega)
      | exact he (by omega)
      | (congr 1; omega)
      | (rw [if_pos (by omega)] at he; exact he)
      | exact hD1 (by omega)
      | exact hD2 (by omega)
      | grind
      | skip
    )
  refine hZ (fun u => Nat.beq u 2) 14 0 _ _ _ _ _ ?_
  simp only [sm_run, sm_blk, sm_get, sm_ent, sm_ents, sm_wds, sm_wd, sm_nl, sm_pop, sm_back, sm_cases, oK, oLK, oL, oI, oA, oJ, oIs, oAs, oJs, oInc, oAdd, oSub, oMul, oDiv, oRem, oNeg, oAnd, oOr, oShl, oI2c, oI2l, oL2i, oLand, oLor, oLshl, oLshr, oLushr, oLcmp, oDup, oDup2, oPop, oGo, oFg, oEq, oNe, oLt, oGe, oGt, oLe, oEq0, oNe0, oLt0, oGe0, oGt0, oLe0, oSw, oGi, oGr, oPi, oPz, oPr, oLen, oIl, oZl, oCl, oRl, oIst, oZst, oCst, oRst, oCopy, oNew, oNa, oNa2, oObj, oCs, oCv, oCi, oIr, oZr, oVr, Nat.beq, List.getElem?_cons_zero, List.getElem?_cons_succ, List.set_cons_zero, List.set_cons_succ, List.length_cons, List.length_nil, List.nil_append, List.cons_append, List.append_nil, List.replicate_succ, List.replicate_zero, Nat.reduceAdd, Nat.reduceSub, Nat.reduceLT, Nat.reduceLeDiff, Nat.reduceBEq, true_and, and_true, Nat.zero_add, Nat.add_zero, Nat.le_refl, Option.some.injEq, exists_eq_left', true_or, or_true, or_false, false_or, reduceCtorEq, Prod.mk.injEq, Sum.inl.injEq, and_self, false_and, and_false, not_true_eq_false, not_false_eq_true, false_implies, true_implies, sm_r, Int.add_zero, Int.zero_add, wI_wsI, wS_wsI, wR_wsI, wI_wCp, wS_wCp, wR_wCp, Nat.reduceEqDiff, reduceIte, sT_iff, sT_iffC, wIf_ne, ne_eq, Bool.false_or, Bool.true_or, Bool.or_false, Bool.or_true, Bool.or_self, tb_X8_beginDay, p_X8_of, f_X8_of, p_X8_beginDay, f_X8_beginDay]
  repeat' (first | with_reducible assumption | with_reducible refine And.intro ?_ ?_ | intro _)
  all_goals first
    | omega
    | assumption
    | rfl
    | (split <;> omega)
    | (have k9 := ih (by omega)
       (repeat' split at k9) <;> first | exact k9 | omega)
    | (have k9 := ih2 (by omega)
       (repeat' split at k9) <;> first | exact k9 | omega)
    | exact he (by omega)
    | (congr 1; omega)
    | (rw [if_pos (by omega)] at he; exact he)
    | exact hD1 (by omega)
    | exact hD2 (by omega)
    | skip
theorem met_X8_beginDay (l : Launch) : sm_Met l yX8_beginDay cX8_beginDay 2 none 1 0 0 p_X8_beginDay f_X8_beginDay := sm_met 0 (Or.inl ⟨rfl, rfl⟩) (by decide +kernel) (sn_X8_beginDay l) ok_X8_beginDay
def mAs (w : sm_W) : Int → Int := itI (fun k r => if r = 1 then (if wI w 170 k = wI w 155 k then 1 else 0) else r) (wI w 154 20)
theorem mAs_01 {w : sm_W} (h : wI w 154 20 = 0 ∨ wI w 154 20 = 1) (n : Int) (hn : 0 ≤ n) : mAs w n = 0 ∨ mAs w n = 1 := by
  refine itI_ind (fun _ r => r = 0 ∨ r = 1) n h (fun i r _ _ hr => ?_) n hn (Int.le_refl _)
  grind
theorem mAs_0 {w : sm_W} {i n : Int} (h0 : 0 ≤ i) (hn : i ≤ n) (h : mAs w i = 0) : mAs w n = 0 :=
  itI_abs (r0 := 0) (fun k _ => rfl) h0 hn h
def p_X8_isAsRun : List sm_V → sm_W → Prop
  | [.inr (.inl m)], w => m = 154 ∧ sT w ∧ (wI w 154 20 = 0 ∨ wI w 154 20 = 1)
  | _, _ => False
def f_X8_isAsRun : sm_F
  | [.inr (.inl m)], w => (some (.inl (mAs w 57)), w)
  | _, w => (none, w)
def tb_X8_isAsRun : List (Nat × List sm_O) := [(0, [oA 0, oGi 8 30 20, oIs 1, oK 0, oIs 2, oGo 7]),
  (7, [oI 2, oK 57, oGe 44, oI 1, oEq0 44, oA 0, oGr 8 30 19, oI 2, oIl, oA 0, oGr 8 30 0, oI 2, oIl, oNe 36, oK 1, oGo 37]),
  (36, [oK 0, oGo 37]),
  (37, [oIs 1, oInc 2 1, oGo 7]),
  (44, [oI 1, oZr])]
set_option maxRecDepth 100000 in
theorem sb_X8_isAsRun_0 (l : Launch) : sm_SndB l RX8 "isAsRun" cX8_isAsRun 3 2 0 0 [oA 0, oGi 8 30 20, oIs 1, oK 0, oIs 2, oGo 7] := sb_cons (sd_aload_n (by decide +kernel : decode cX8_isAsRun 0 = .ok (.aload_n 0, 1)) rfl) (sb_cons (sd_geti (k := 20) kl_8 (by decide) rfl wm_693 (by decide +kernel : decode cX8_isAsRun 1 = .ok (.getfield 130, 3))) (sb_cons (sd_istore_n (by decide +kernel : decode cX8_isAsRun 4 = .ok (.istore_n 1, 1)) rfl) (sb_cons (sd_iconst (by decide +kernel : decode cX8_isAsRun 5 = .ok (.iconst 0, 1)) ⟨by decide, by decide⟩) (sb_cons (sd_istore_n (by decide +kernel : decode cX8_isAsRun 6 = .ok (.istore_n 2, 1)) rfl) (sb_cons (sd_fall (x := 0)) sb_nil)))))
set_option maxRecDepth 100000 in
theorem sb_X8_isAsRun_7 (l : Launch) : sm_SndB l RX8 "isAsRun" cX8_isAsRun 3 2 0 7 [oI 2, oK 57, oGe 44, oI 1, oEq0 44, oA 0, oGr 8 30 19, oI 2, oIl, oA 0, oGr 8 30 0, oI 2, oIl, oNe 36, oK 1, oGo 37] := sb_cons (sd_iload_n (by decide +kernel : decode cX8_isAsRun 7 = .ok (.iload_n 2, 1)) rfl) (sb_cons (sd_bipush (by decide +kernel : decode cX8_isAsRun 8 = .ok (.bipush 57, 2)) ⟨by decide, by decide⟩ (by decide)) (sb_cons (sd_ge (by decide +kernel : decode cX8_isAsRun 10 = .ok (.if_icmp .ge 34, 3)) (by decide)) (sb_cons (sd_iload_n (by decide +kernel : decode cX8_isAsRun 13 = .ok (.iload_n 1, 1)) rfl) (sb_cons (sd_eq0 (by decide +kernel : decode cX8_isAsRun 14 = .ok (.ifCond .eq 30, 3)) (by decide)) (sb_cons (sd_aload_n (by decide +kernel : decode cX8_isAsRun 17 = .ok (.aload_n 0, 1)) rfl) (sb_cons (sd_getr (k := 19) kl_8 (by decide) rfl wm_692 (by decide +kernel : decode cX8_isAsRun 18 = .ok (.getfield 56, 3))) (sb_cons (sd_iload_n (by decide +kernel : decode cX8_isAsRun 21 = .ok (.iload_n 2, 1)) rfl) (sb_cons (sd_iaload (by decide +kernel : decode cX8_isAsRun 22 = .ok (.iaload, 1))) (sb_cons (sd_aload_n (by decide +kernel : decode cX8_isAsRun 23 = .ok (.aload_n 0, 1)) rfl) (sb_cons (sd_getr (k := 0) kl_8 (by decide) rfl wm_673 (by decide +kernel : decode cX8_isAsRun 24 = .ok (.getfield 7, 3))) (sb_cons (sd_iload_n (by decide +kernel : decode cX8_isAsRun 27 = .ok (.iload_n 2, 1)) rfl) (sb_cons (sd_iaload (by decide +kernel : decode cX8_isAsRun 28 = .ok (.iaload, 1))) (sb_cons (sd_ne (by decide +kernel : decode cX8_isAsRun 29 = .ok (.if_icmp .ne 7, 3)) (by decide)) (sb_cons (sd_iconst (by decide +kernel : decode cX8_isAsRun 32 = .ok (.iconst 1, 1)) ⟨by decide, by decide⟩) (sb_cons (sd_goto (x := 0) (by decide +kernel : decode cX8_isAsRun 33 = .ok (.goto 4, 3)) (by decide)) sb_nil)))))))))))))))
set_option maxRecDepth 100000 in
theorem sb_X8_isAsRun_36 (l : Launch) : sm_SndB l RX8 "isAsRun" cX8_isAsRun 3 2 0 36 [oK 0, oGo 37] := sb_cons (sd_iconst (by decide +kernel : decode cX8_isAsRun 36 = .ok (.iconst 0, 1)) ⟨by decide, by decide⟩) (sb_cons (sd_fall (x := 0)) sb_nil)
set_option maxRecDepth 100000 in
theorem sb_X8_isAsRun_37 (l : Launch) : sm_SndB l RX8 "isAsRun" cX8_isAsRun 3 2 0 37 [oIs 1, oInc 2 1, oGo 7] := sb_cons (sd_istore_n (by decide +kernel : decode cX8_isAsRun 37 = .ok (.istore_n 1, 1)) rfl) (sb_cons (sd_iinc (by decide +kernel : decode cX8_isAsRun 38 = .ok (.iinc 2 1, 3))) (sb_cons (sd_goto (x := 0) (by decide +kernel : decode cX8_isAsRun 41 = .ok (.goto (-34), 3)) (by decide)) sb_nil))
set_option maxRecDepth 100000 in
theorem sb_X8_isAsRun_44 (l : Launch) : sm_SndB l RX8 "isAsRun" cX8_isAsRun 3 2 0 44 [oI 1, oZr] := sb_cons (sd_iload_n (by decide +kernel : decode cX8_isAsRun 44 = .ok (.iload_n 1, 1)) rfl) (sb_cons (sd_zreturn (x := 0) rfl (by decide +kernel : decode cX8_isAsRun 45 = .ok (.ireturn, 1))) sb_nil)
theorem sn_X8_isAsRun (l : Launch) : sm_SndT l RX8 "isAsRun" cX8_isAsRun 3 2 0 tb_X8_isAsRun := st_cons (sb_X8_isAsRun_0 l) (st_cons (sb_X8_isAsRun_7 l) (st_cons (sb_X8_isAsRun_36 l) (st_cons (sb_X8_isAsRun_37 l) (st_cons (sb_X8_isAsRun_44 l) (st_nil)))))
set_option maxRecDepth 100000 in
set_option maxHeartbeats 4000000 in
theorem ok_X8_isAsRun : sm_Ok tb_X8_isAsRun 3 0 0 p_X8_isAsRun f_X8_isAsRun := by
  intro as w hp ha hw
  match as, hp with
  | [.inr (.inl m)], hp =>
  refine ⟨Nat.le_of_ble_eq_true rfl, fun Z hZ => ?_⟩
  obtain ⟨rfl, hT, hh⟩ := hp
  have hl := sm_loopI Z 7 0 57 (fun i => [some (.inr (.inl 154)), some (.inl (mAs w i)), some (.inl i)]) (fun _ => w) 0 0 (by decide) (fun i h0 h1 ih => by
    have hb := mAs_01 hh i h0
    have hb2 := mAs_01 hh 57 (by decide)
    have he0 := fun h => mAs_0 (w := w) (n := 57) h0 h1 h
    have hx1 : i = 57 → mAs w i = mAs w 57 := fun e => by rw [e]
    have hu : mAs w (i + 1) = if mAs w i = 1 then (if wI w 170 i = wI w 155 i then 1 else 0) else mAs w i := itI_s _ _ h0
    rw [hu] at ih
    refine hZ (fun u => Nat.beq u 7) 14 7 _ _ _ _ _ ?_
    simp only [sm_run, sm_blk, sm_get, sm_ent, sm_ents, sm_wds, sm_wd, sm_nl, sm_pop, sm_back, sm_cases, oK, oLK, oL, oI, oA, oJ, oIs, oAs, oJs, oInc, oAdd, oSub, oMul, oDiv, oRem, oNeg, oAnd, oOr, oShl, oI2c, oI2l, oL2i, oLand, oLor, oLshl, oLshr, oLushr, oLcmp, oDup, oDup2, oPop, oGo, oFg, oEq, oNe, oLt, oGe, oGt, oLe, oEq0, oNe0, oLt0, oGe0, oGt0, oLe0, oSw, oGi, oGr, oPi, oPz, oPr, oLen, oIl, oZl, oCl, oRl, oIst, oZst, oCst, oRst, oCopy, oNew, oNa, oNa2, oObj, oCs, oCv, oCi, oIr, oZr, oVr, Nat.beq, List.getElem?_cons_zero, List.getElem?_cons_succ, List.set_cons_zero, List.set_cons_succ, List.length_cons, List.length_nil, List.nil_append, List.cons_append, List.append_nil, List.replicate_succ, List.replicate_zero, Nat.reduceAdd, Nat.reduceSub, Nat.reduceLT, Nat.reduceLeDiff, Nat.reduceBEq, true_and, and_true, Nat.zero_add, Nat.add_zero, Nat.le_refl, Option.some.injEq, exists_eq_left', true_or, or_true, or_false, false_or, reduceCtorEq, Prod.mk.injEq, Sum.inl.injEq, and_self, false_and, and_false, not_true_eq_false, not_false_eq_true, false_implies, true_implies, sm_r, Int.add_zero, Int.zero_add, wI_wsI, wS_wsI, wR_wsI, wI_wCp, wS_wCp, wR_wCp, Nat.reduceEqDiff, reduceIte, sT_iff, sT_iffC, wIf_ne, ne_eq, Bool.false_or, Bool.true_or, Bool.or_false, Bool.or_true, Bool.or_self, tb_X8_isAsRun, p_X8_isAsRun, f_X8_isAsRun, sS_154 hT, sR_154_0 hT, sS_155 hT, sR_154_19 hT, sS_170 hT]
    repeat' (first | with_reducible assumption | with_reducible refine And.intro ?_ ?_ | intro _)
    all_goals first
      | omega
      | assumption
      | rfl
      | (split <;> omega)
      | (have k9 := ih (by omega)
         (repeat' split at k9) <;> first | exact k9 | omega)
      | (have k9 := ih2 (by omega)
         (repeat' split at k9) <;> first | exact k9 | omega)
      | exact he (by omega)
      | (congr 1; omega)
      | (rw [if_pos (by omega)] at he; exact he)
      | exact hD1 (by omega)
      | exact hD2 (by omega)
      | grind
      | skip
    )
  refine hZ (fun u => Nat.beq u 7) 14 0 _ _ _ _ _ ?_
  simp only [sm_run, sm_blk, sm_get, sm_ent, sm_ents, sm_wds, sm_wd, sm_nl, sm_pop, sm_back, sm_cases, oK, oLK, oL, oI, oA, oJ, oIs, oAs, oJs, oInc, oAdd, oSub, oMul, oDiv, oRem, oNeg, oAnd, oOr, oShl, oI2c, oI2l, oL2i, oLand, oLor, oLshl, oLshr, oLushr, oLcmp, oDup, oDup2, oPop, oGo, oFg, oEq, oNe, oLt, oGe, oGt, oLe, oEq0, oNe0, oLt0, oGe0, oGt0, oLe0, oSw, oGi, oGr, oPi, oPz, oPr, oLen, oIl, oZl, oCl, oRl, oIst, oZst, oCst, oRst, oCopy, oNew, oNa, oNa2, oObj, oCs, oCv, oCi, oIr, oZr, oVr, Nat.beq, List.getElem?_cons_zero, List.getElem?_cons_succ, List.set_cons_zero, List.set_cons_succ, List.length_cons, List.length_nil, List.nil_append, List.cons_append, List.append_nil, List.replicate_succ, List.replicate_zero, Nat.reduceAdd, Nat.reduceSub, Nat.reduceLT, Nat.reduceLeDiff, Nat.reduceBEq, true_and, and_true, Nat.zero_add, Nat.add_zero, Nat.le_refl, Option.some.injEq, exists_eq_left', true_or, or_true, or_false, false_or, reduceCtorEq, Prod.mk.injEq, Sum.inl.injEq, and_self, false_and, and_false, not_true_eq_false, not_false_eq_true, false_implies, true_implies, sm_r, Int.add_zero, Int.zero_add, wI_wsI, wS_wsI, wR_wsI, wI_wCp, wS_wCp, wR_wCp, Nat.reduceEqDiff, reduceIte, sT_iff, sT_iffC, wIf_ne, ne_eq, Bool.false_or, Bool.true_or, Bool.or_false, Bool.or_true, Bool.or_self, tb_X8_isAsRun, p_X8_isAsRun, f_X8_isAsRun, sS_154 hT]
  repeat' (first | with_reducible assumption | with_reducible refine And.intro ?_ ?_ | intro _)
  all_goals first
    | omega
    | assumption
    | rfl
    | (split <;> omega)
    | (have k9 := ih (by omega)
       (repeat' split at k9) <;> first | exact k9 | omega)
    | (have k9 := ih2 (by omega)
       (repeat' split at k9) <;> first | exact k9 | omega)
    | exact he (by omega)
    | (congr 1; omega)
    | (rw [if_pos (by omega)] at he; exact he)
    | exact hD1 (by omega)
    | exact hD2 (by omega)
    | skip

theorem met_X8_isAsRun (l : Launch) : sm_Met l yX8_isAsRun cX8_isAsRun 3 (some .boolean) 0 0 0 p_X8_isAsRun f_X8_isAsRun := sm_met 2 (Or.inr (Or.inr ⟨rfl, rfl⟩)) (by decide +kernel) (sn_X8_isAsRun l) ok_X8_isAsRun
end
section
/-! THE REFERENCE: what is asked of a day that was run -/
/-- what a day writes down is small -/
def mRec (w : sm_W) : Prop := (∀ i, -6 ≤ wI w 163 i ∧ wI w 163 i ≤ 100000) ∧ (∀ i, -6 ≤ wI w 165 i ∧ wI w 165 i ≤ 100000) ∧ (∀ i, -6 ≤ wI w 164 i ∧ wI w 164 i ≤ 200000) ∧ mCtr w 2000000
def mEndOf (w : sm_W) (x : Int) : Int := wI w 163 (8 * x + wI w 155 (17 + 5 * x + 1))
def p_X8_endOf : List sm_V → sm_W → Prop
  | [.inr (.inl m), .inl x], w => m = 154 ∧ mOK w ∧ 0 ≤ x ∧ x < wI w 155 1
  | _, _ => False
def f_X8_endOf : sm_F
  | [.inr (.inl m), .inl x], w => (some (.inl (mEndOf w x)), w)
  | _, w => (none, w)
def tb_X8_endOf : List (Nat × List sm_O) := [(0, [oA 0, oGr 8 30 10, oK 8, oI 1, oMul, oA 0, oI 1, oK 1, oCv 8 30 p_X8_of f_X8_of 0 0 3, oAdd, oIl, oIr])]
set_option maxRecDepth 100000 in
theorem sb_X8_endOf_0 (l : Launch) : sm_SndB l RX8 "endOf" cX8_endOf 2 1 1 0 [oA 0, oGr 8 30 10, oK 8, oI 1, oMul, oA 0, oI 1, oK 1, oCv 8 30 p_X8_of f_X8_of 0 0 3, oAdd, oIl, oIr] := sb_cons (sd_aload_n (by decide +kernel : decode cX8_endOf 0 = .ok (.aload_n 0, 1)) rfl) (sb_cons (sd_getr (k := 10) kl_8 (by decide) rfl wm_683 (by decide +kernel : decode cX8_endOf 1 = .ok (.getfield 35, 3))) (sb_cons (sd_bipush (by decide +kernel : decode cX8_endOf 4 = .ok (.bipush 8, 2)) ⟨by decide, by decide⟩ (by decide)) (sb_cons (sd_iload_n (by decide +kernel : decode cX8_endOf 6 = .ok (.iload_n 1, 1)) rfl) (sb_cons (sd_imul (by decide +kernel : decode cX8_endOf 7 = .ok (.imul, 1))) (sb_cons (sd_aload_n (by decide +kernel : decode cX8_endOf 8 = .ok (.aload_n 0, 1)) rfl) (sb_cons (sd_iload_n (by decide +kernel : decode cX8_endOf 9 = .ok (.iload_n 1, 1)) rfl) (sb_cons (sd_iconst (by decide +kernel : decode cX8_endOf 10 = .ok (.iconst 1, 1)) ⟨by decide, by decide⟩) (sb_cons (sd_callv (n := 2) (met_X8_of l) (by decide) (by decide) wm_778 wm_776 wm_10 ⟨by decide +kernel, by decide +kernel, by decide +kernel⟩ kl_8 wm_777 wm_1113 (by decide +kernel : decode cX8_endOf 11 = .ok (.invokevirtual 78, 3))) (sb_cons (sd_iadd (by decide +kernel : decode cX8_endOf 14 = .ok (.iadd, 1))) (sb_cons (sd_iaload (by decide +kernel : decode cX8_endOf 15 = .ok (.iaload, 1))) (sb_cons (sd_ireturn (x := 0) rfl (by decide +kernel : decode cX8_endOf 16 = .ok (.ireturn, 1))) sb_nil)))))))))))
theorem sn_X8_endOf (l : Launch) : sm_SndT l RX8 "endOf" cX8_endOf 2 1 1 tb_X8_endOf := st_cons (sb_X8_endOf_0 l) (st_nil)
set_option maxRecDepth 100000 in
set_option maxHeartbeats 4000000 in
theorem ok_X8_endOf : sm_Ok tb_X8_endOf 2 0 0 p_X8_endOf f_X8_endOf := by
  intro as w hp ha hw
  match as, hp with
  | [.inr (.inl m), .inl x], hp =>
  refine ⟨Nat.le_of_ble_eq_true rfl, fun Z hZ => ?_⟩
  obtain ⟨rfl, ⟨hT, hv⟩, h1, h2⟩ := hp
  have hm := vOK_many hv
  have hq := vOK_sh hv h1 h2
  refine hZ (fun _ => false) 16 0 _ _ _ _ _ ?_
  simp only [sm_run, sm_blk, sm_get, sm_ent, sm_ents, sm_wds, sm_wd, sm_nl, sm_pop, sm_back, sm_cases, oK, oLK, oL, oI, oA, oJ, oIs, oAs, oJs, oInc, oAdd, oSub, oMul, oDiv, oRem, oNeg, oAnd, oAndB, oOr, oShl, oI2c, oI2l, oL2i, oLand, oLor, oLshl, oLshr, oLushr, oLcmp, oDup, oDup2, oPop, oGo, oFg, oEq, oNe, oLt, oGe, oGt, oLe, oEq0, oNe0, oLt0, oGe0, oGt0, oLe0, oSw, oGi, oGr, oPi, oPz, oPr, oLen, oIl, oZl, oCl, oRl, oIst, oZst, oCst, oRst, oCopy, oNew, oNa, oNa2, oObj, oCs, oCv, oCi, oIr, oZr, oVr, Nat.beq, List.getElem?_cons_zero, List.getElem?_cons_succ, List.set_cons_zero, List.set_cons_succ, List.length_cons, List.length_nil, List.nil_append, List.cons_append, List.append_nil, List.replicate_succ, List.replicate_zero, Nat.reduceAdd, Nat.reduceSub, Nat.reduceLT, Nat.reduceLeDiff, Nat.reduceBEq, true_and, and_true, Nat.zero_add, Nat.add_zero, Nat.le_refl, Option.some.injEq, exists_eq_left', true_or, or_true, or_false, false_or, reduceCtorEq, Prod.mk.injEq, Sum.inl.injEq, and_self, false_and, and_false, not_true_eq_false, not_false_eq_true, false_implies, true_implies, sm_r, Int.add_zero, Int.zero_add, wI_wsI, wS_wsI, wR_wsI, wI_wCp, wS_wCp, wR_wCp, Nat.reduceEqDiff, reduceIte, sT_iff, sT_iffC, wIf_ne, ne_eq, Bool.false_or, Bool.true_or, Bool.or_false, Bool.or_true, Bool.or_self, tb_X8_endOf, p_X8_of, f_X8_of, p_X8_endOf, f_X8_endOf, sS_154 hT, sR_154_10 hT, sS_163 hT, hT]
  repeat' (first | exact True.intro | with_reducible assumption | with_reducible refine And.intro ?_ ?_ | intro _)
  all_goals first
    | omega
    | assumption
    | rfl
    | (split <;> omega)
    | skip
theorem met_X8_endOf (l : Launch) : sm_Met l yX8_endOf cX8_endOf 2 (some .int) 1 0 0 p_X8_endOf f_X8_endOf := sm_met 1 (Or.inr (Or.inl ⟨rfl, rfl⟩)) (by decide +kernel) (sn_X8_endOf l) ok_X8_endOf
def mDelay (w : sm_W) (x : Int) : Int := if mEndOf w x < 0 then -6 else mEndOf w x - wI w 155 (17 + 5 * x + 2) - vTime (wI w 155) x (wI w 155 (17 + 5 * x))
theorem vTime_b {v : Int → Int} (hv : vOK v) {x : Int} (h0 : 0 ≤ x) (h1 : x < v 1) {fr : Int} (f0 : 0 ≤ fr) (f1 : fr ≤ 7) : 0 ≤ vTime v x fr ∧ vTime v x fr ≤ 400 := by
  have hq := vOK_sh hv h0 h1
  unfold vTime
  split
  · exact wT_b hv (by omega) (by omega) f0 (by omega) (by omega)
  · exact wT_b hv (by omega) (by omega) (by omega) (by omega) f1
theorem mDelay_b {w : sm_W} (hO : mOK w) (hR : mRec w) {x : Int} (h0 : 0 ≤ x) (h1 : x < wI w 155 1) : -1000 ≤ mDelay w x ∧ mDelay w x ≤ 100000 := by
  have hq := vOK_sh hO.2 h0 h1
  have ht := vTime_b hO.2 h0 h1 (fr := wI w 155 (17 + 5 * x)) (by omega) (by omega)
  have hr := hR.1 (8 * x + wI w 155 (17 + 5 * x + 1))
  unfold mDelay mEndOf
  split <;> omega
def p_X8_delayOf : List sm_V → sm_W → Prop
  | [.inr (.inl m), .inl x], w => m = 154 ∧ mOK w ∧ 0 ≤ x ∧ x < wI w 155 1 ∧ mRec w
  | _, _ => False
def f_X8_delayOf : sm_F
  | [.inr (.inl m), .inl x], w => (some (.inl (mDelay w x)), w)
  | _, w => (none, w)
def tb_X8_delayOf : List (Nat × List sm_O) := [(0, [oA 0, oI 1, oCv 8 30 p_X8_endOf f_X8_endOf 0 0 2, oGe0 13, oK (-6), oGo 37]),
  (13, [oA 0, oI 1, oCv 8 30 p_X8_endOf f_X8_endOf 0 0 2, oA 0, oI 1, oK 2, oCv 8 30 p_X8_of f_X8_of 0 0 3, oSub, oA 0, oI 1, oA 0, oI 1, oK 0, oCv 8 30 p_X8_of f_X8_of 0 0 3, oCv 8 30 p_X8_timeOf f_X8_timeOf 0 0 3, oSub, oGo 37]),
  (37, [oIr])]
set_option maxRecDepth 100000 in
theorem sb_X8_delayOf_0 (l : Launch) : sm_SndB l RX8 "delayOf" cX8_delayOf 2 1 3 0 [oA 0, oI 1, oCv 8 30 p_X8_endOf f_X8_endOf 0 0 2, oGe0 13, oK (-6), oGo 37] := sb_cons (sd_aload_n (by decide +kernel : decode cX8_delayOf 0 = .ok (.aload_n 0, 1)) rfl) (sb_cons (sd_iload_n (by decide +kernel : decode cX8_delayOf 1 = .ok (.iload_n 1, 1)) rfl) (sb_cons (sd_callv (n := 1) (met_X8_endOf l) (by decide) (by decide) wm_881 wm_879 wm_10 ⟨by decide +kernel, by decide +kernel, by decide +kernel⟩ kl_8 wm_880 wm_1134 (by decide +kernel : decode cX8_delayOf 2 = .ok (.invokevirtual 161, 3))) (sb_cons (sd_ge0 (by decide +kernel : decode cX8_delayOf 5 = .ok (.ifCond .ge 8, 3)) (by decide)) (sb_cons (sd_bipush (by decide +kernel : decode cX8_delayOf 8 = .ok (.bipush (-6), 2)) ⟨by decide, by decide⟩ (by decide)) (sb_cons (sd_goto (x := 0) (by decide +kernel : decode cX8_delayOf 10 = .ok (.goto 27, 3)) (by decide)) sb_nil)))))
set_option maxRecDepth 100000 in
theorem sb_X8_delayOf_13 (l : Launch) : sm_SndB l RX8 "delayOf" cX8_delayOf 2 1 3 13 [oA 0, oI 1, oCv 8 30 p_X8_endOf f_X8_endOf 0 0 2, oA 0, oI 1, oK 2, oCv 8 30 p_X8_of f_X8_of 0 0 3, oSub, oA 0, oI 1, oA 0, oI 1, oK 0, oCv 8 30 p_X8_of f_X8_of 0 0 3, oCv 8 30 p_X8_timeOf f_X8_timeOf 0 0 3, oSub, oGo 37] := sb_cons (sd_aload_n (by decide +kernel : decode cX8_delayOf 13 = .ok (.aload_n 0, 1)) rfl) (sb_cons (sd_iload_n (by decide +kernel : decode cX8_delayOf 14 = .ok (.iload_n 1, 1)) rfl) (sb_cons (sd_callv (n := 1) (met_X8_endOf l) (by decide) (by decide) wm_881 wm_879 wm_10 ⟨by decide +kernel, by decide +kernel, by decide +kernel⟩ kl_8 wm_880 wm_1134 (by decide +kernel : decode cX8_delayOf 15 = .ok (.invokevirtual 161, 3))) (sb_cons (sd_aload_n (by decide +kernel : decode cX8_delayOf 18 = .ok (.aload_n 0, 1)) rfl) (sb_cons (sd_iload_n (by decide +kernel : decode cX8_delayOf 19 = .ok (.iload_n 1, 1)) rfl) (sb_cons (sd_iconst (by decide +kernel : decode cX8_delayOf 20 = .ok (.iconst 2, 1)) ⟨by decide, by decide⟩) (sb_cons (sd_callv (n := 2) (met_X8_of l) (by decide) (by decide) wm_778 wm_776 wm_10 ⟨by decide +kernel, by decide +kernel, by decide +kernel⟩ kl_8 wm_777 wm_1113 (by decide +kernel : decode cX8_delayOf 21 = .ok (.invokevirtual 78, 3))) (sb_cons (sd_isub (by decide +kernel : decode cX8_delayOf 24 = .ok (.isub, 1))) (sb_cons (sd_aload_n (by decide +kernel : decode cX8_delayOf 25 = .ok (.aload_n 0, 1)) rfl) (sb_cons (sd_iload_n (by decide +kernel : decode cX8_delayOf 26 = .ok (.iload_n 1, 1)) rfl) (sb_cons (sd_aload_n (by decide +kernel : decode cX8_delayOf 27 = .ok (.aload_n 0, 1)) rfl) (sb_cons (sd_iload_n (by decide +kernel : decode cX8_delayOf 28 = .ok (.iload_n 1, 1)) rfl) (sb_cons (sd_iconst (by decide +kernel : decode cX8_delayOf 29 = .ok (.iconst 0, 1)) ⟨by decide, by decide⟩) (sb_cons (sd_callv (n := 2) (met_X8_of l) (by decide) (by decide) wm_778 wm_776 wm_10 ⟨by decide +kernel, by decide +kernel, by decide +kernel⟩ kl_8 wm_777 wm_1113 (by decide +kernel : decode cX8_delayOf 30 = .ok (.invokevirtual 78, 3))) (sb_cons (sd_callv (n := 2) (met_X8_timeOf l) (by decide) (by decide) wm_865 wm_863 wm_10 ⟨by decide +kernel, by decide +kernel, by decide +kernel⟩ kl_8 wm_864 wm_1130 (by decide +kernel : decode cX8_delayOf 33 = .ok (.invokevirtual 115, 3))) (sb_cons (sd_isub (by decide +kernel : decode cX8_delayOf 36 = .ok (.isub, 1))) (sb_cons (sd_fall (x := 0)) sb_nil))))))))))))))))
set_option maxRecDepth 100000 in
theorem sb_X8_delayOf_37 (l : Launch) : sm_SndB l RX8 "delayOf" cX8_delayOf 2 1 3 37 [oIr] := sb_cons (sd_ireturn (x := 0) rfl (by decide +kernel : decode cX8_delayOf 37 = .ok (.ireturn, 1))) sb_nil
theorem sn_X8_delayOf (l : Launch) : sm_SndT l RX8 "delayOf" cX8_delayOf 2 1 3 tb_X8_delayOf := st_cons (sb_X8_delayOf_0 l) (st_cons (sb_X8_delayOf_13 l) (st_cons (sb_X8_delayOf_37 l) (st_nil)))
set_option maxRecDepth 100000 in
set_option maxHeartbeats 4000000 in
theorem ok_X8_delayOf : sm_Ok tb_X8_delayOf 2 0 0 p_X8_delayOf f_X8_delayOf := by
  intro as w hp ha hw
  match as, hp with
  | [.inr (.inl m), .inl x], hp =>
  refine ⟨Nat.le_of_ble_eq_true rfl, fun Z hZ => ?_⟩
  obtain ⟨rfl, ⟨hT, hv⟩, h1, h2, hR⟩ := hp
  have hO : mOK w := ⟨hT, hv⟩
  have hq := vOK_sh hv h1 h2
  have hm := vOK_many hv
  have ht := vTime_b hv h1 h2 (fr := wI w 155 (17 + 5 * x)) (by omega) (by omega)
  have hr := hR.1 (8 * x + wI w 155 (17 + 5 * x + 1))
  have hr2 : mEndOf w x = wI w 163 (8 * x + wI w 155 (17 + 5 * x + 1)) := rfl
  refine hZ (fun _ => false) 16 0 _ _ _ _ _ ?_
  simp only [sm_run, sm_blk, sm_get, sm_ent, sm_ents, sm_wds, sm_wd, sm_nl, sm_pop, sm_back, sm_cases, oK, oLK, oL, oI, oA, oJ, oIs, oAs, oJs, oInc, oAdd, oSub, oMul, oDiv, oRem, oNeg, oAnd, oAndB, oOr, oShl, oI2c, oI2l, oL2i, oLand, oLor, oLshl, oLshr, oLushr, oLcmp, oDup, oDup2, oPop, oGo, oFg, oEq, oNe, oLt, oGe, oGt, oLe, oEq0, oNe0, oLt0, oGe0, oGt0, oLe0, oSw, oGi, oGr, oPi, oPz, oPr, oLen, oIl, oZl, oCl, oRl, oIst, oZst, oCst, oRst, oCopy, oNew, oNa, oNa2, oObj, oCs, oCv, oCi, oIr, oZr, oVr, Nat.beq, List.getElem?_cons_zero, List.getElem?_cons_succ, List.set_cons_zero, List.set_cons_succ, List.length_cons, List.length_nil, List.nil_append, List.cons_append, List.append_nil, List.replicate_succ, List.replicate_zero, Nat.reduceAdd, Nat.reduceSub, Nat.reduceLT, Nat.reduceLeDiff, Nat.reduceBEq, true_and, and_true, Nat.zero_add, Nat.add_zero, Nat.le_refl, Option.some.injEq, exists_eq_left', true_or, or_true, or_false, false_or, reduceCtorEq, Prod.mk.injEq, Sum.inl.injEq, and_self, false_and, and_false, not_true_eq_false, not_false_eq_true, false_implies, true_implies, sm_r, Int.add_zero, Int.zero_add, wI_wsI, wS_wsI, wR_wsI, wI_wCp, wS_wCp, wR_wCp, Nat.reduceEqDiff, reduceIte, sT_iff, sT_iffC, wIf_ne, ne_eq, Bool.false_or, Bool.true_or, Bool.or_false, Bool.or_true, Bool.or_self, tb_X8_delayOf, p_X8_endOf, p_X8_of, p_X8_timeOf, f_X8_endOf, f_X8_of, f_X8_timeOf, p_X8_delayOf, f_X8_delayOf, sS_154 hT, hT, hO]
  repeat' (first | exact True.intro | with_reducible assumption | with_reducible refine And.intro ?_ ?_ | intro _)
  all_goals first
    | omega
    | assumption
    | rfl
    | (split <;> omega)
    | grind [mDelay]
    | skip
theorem met_X8_delayOf (l : Launch) : sm_Met l yX8_delayOf cX8_delayOf 2 (some .int) 3 0 0 p_X8_delayOf f_X8_delayOf := sm_met 1 (Or.inr (Or.inl ⟨rfl, rfl⟩)) (by decide +kernel) (sn_X8_delayOf l) ok_X8_delayOf
def mDlS (w : sm_W) : Int → Int := itI (fun x r => r + mDelay w x) 0
theorem mDlS_b {w : sm_W} (hO : mOK w) (hR : mRec w) (n : Int) (h0 : 0 ≤ n) (h1 : n ≤ wI w 155 1) : -1000 * n ≤ mDlS w n ∧ mDlS w n ≤ 100000 * n := by
  refine itI_ind (fun i r => -1000 * i ≤ r ∧ r ≤ 100000 * i) n ⟨by decide, by decide⟩ (fun i r i0 i1 hr => ?_) n h0 (Int.le_refl _)
  have := mDelay_b hO hR i0 (by omega)
  omega
def mDl (w : sm_W) : Int := if wI w 154 18 = 0 then mDlS w (wI w 155 1) else -6
def p_X8_delay : List sm_V → sm_W → Prop
  | [.inr (.inl m)], w => m = 154 ∧ mOK w ∧ mRec w
  | _, _ => False
def f_X8_delay : sm_F
  | [.inr (.inl m)], w => (some (.inl (mDl w)), w)
  | _, w => (none, w)
def tb_X8_delay : List (Nat × List sm_O) := [(0, [oK 0, oIs 1, oK 0, oIs 2, oGo 4]),
  (4, [oI 2, oA 0, oGr 8 30 0, oK 1, oIl, oGe 28, oI 1, oA 0, oI 2, oCv 8 30 p_X8_delayOf f_X8_delayOf 0 0 2, oAdd, oIs 1, oInc 2 1, oGo 4]),
  (28, [oA 0, oGi 8 30 18, oEq0 40, oK (-6), oGo 41]),
  (40, [oI 1, oGo 41]),
  (41, [oIr])]
set_option maxRecDepth 100000 in
theorem sb_X8_delay_0 (l : Launch) : sm_SndB l RX8 "delay" cX8_delay 3 1 4 0 [oK 0, oIs 1, oK 0, oIs 2, oGo 4] := sb_cons (sd_iconst (by decide +kernel : decode cX8_delay 0 = .ok (.iconst 0, 1)) ⟨by decide, by decide⟩) (sb_cons (sd_istore_n (by decide +kernel : decode cX8_delay 1 = .ok (.istore_n 1, 1)) rfl) (sb_cons (sd_iconst (by decide +kernel : decode cX8_delay 2 = .ok (.iconst 0, 1)) ⟨by decide, by decide⟩) (sb_cons (sd_istore_n (by decide +kernel : decode cX8_delay 3 = .ok (.istore_n 2, 1)) rfl) (sb_cons (sd_fall (x := 0)) sb_nil))))
set_option maxRecDepth 100000 in
theorem sb_X8_delay_4 (l : Launch) : sm_SndB l RX8 "delay" cX8_delay 3 1 4 4 [oI 2, oA 0, oGr 8 30 0, oK 1, oIl, oGe 28, oI 1, oA 0, oI 2, oCv 8 30 p_X8_delayOf f_X8_delayOf 0 0 2, oAdd, oIs 1, oInc 2 1, oGo 4] := sb_cons (sd_iload_n (by decide +kernel : decode cX8_delay 4 = .ok (.iload_n 2, 1)) rfl) (sb_cons (sd_aload_n (by decide +kernel : decode cX8_delay 5 = .ok (.aload_n 0, 1)) rfl) (sb_cons (sd_getr (k := 0) kl_8 (by decide) rfl wm_673 (by decide +kernel : decode cX8_delay 6 = .ok (.getfield 7, 3))) (sb_cons (sd_iconst (by decide +kernel : decode cX8_delay 9 = .ok (.iconst 1, 1)) ⟨by decide, by decide⟩) (sb_cons (sd_iaload (by decide +kernel : decode cX8_delay 10 = .ok (.iaload, 1))) (sb_cons (sd_ge (by decide +kernel : decode cX8_delay 11 = .ok (.if_icmp .ge 17, 3)) (by decide)) (sb_cons (sd_iload_n (by decide +kernel : decode cX8_delay 14 = .ok (.iload_n 1, 1)) rfl) (sb_cons (sd_aload_n (by decide +kernel : decode cX8_delay 15 = .ok (.aload_n 0, 1)) rfl) (sb_cons (sd_iload_n (by decide +kernel : decode cX8_delay 16 = .ok (.iload_n 2, 1)) rfl) (sb_cons (sd_callv (n := 1) (met_X8_delayOf l) (by decide) (by decide) wm_885 wm_883 wm_10 ⟨by decide +kernel, by decide +kernel, by decide +kernel⟩ kl_8 wm_884 wm_1135 (by decide +kernel : decode cX8_delay 17 = .ok (.invokevirtual 164, 3))) (sb_cons (sd_iadd (by decide +kernel : decode cX8_delay 20 = .ok (.iadd, 1))) (sb_cons (sd_istore_n (by decide +kernel : decode cX8_delay 21 = .ok (.istore_n 1, 1)) rfl) (sb_cons (sd_iinc (by decide +kernel : decode cX8_delay 22 = .ok (.iinc 2 1, 3))) (sb_cons (sd_goto (x := 0) (by decide +kernel : decode cX8_delay 25 = .ok (.goto (-21), 3)) (by decide)) sb_nil)))))))))))))
set_option maxRecDepth 100000 in
theorem sb_X8_delay_28 (l : Launch) : sm_SndB l RX8 "delay" cX8_delay 3 1 4 28 [oA 0, oGi 8 30 18, oEq0 40, oK (-6), oGo 41] := sb_cons (sd_aload_n (by decide +kernel : decode cX8_delay 28 = .ok (.aload_n 0, 1)) rfl) (sb_cons (sd_geti (k := 18) kl_8 (by decide) rfl wm_691 (by decide +kernel : decode cX8_delay 29 = .ok (.getfield 92, 3))) (sb_cons (sd_eq0 (by decide +kernel : decode cX8_delay 32 = .ok (.ifCond .eq 8, 3)) (by decide)) (sb_cons (sd_bipush (by decide +kernel : decode cX8_delay 35 = .ok (.bipush (-6), 2)) ⟨by decide, by decide⟩ (by decide)) (sb_cons (sd_goto (x := 0) (by decide +kernel : decode cX8_delay 37 = .ok (.goto 4, 3)) (by decide)) sb_nil))))
set_option maxRecDepth 100000 in
theorem sb_X8_delay_40 (l : Launch) : sm_SndB l RX8 "delay" cX8_delay 3 1 4 40 [oI 1, oGo 41] := sb_cons (sd_iload_n (by decide +kernel : decode cX8_delay 40 = .ok (.iload_n 1, 1)) rfl) (sb_cons (sd_fall (x := 0)) sb_nil)
set_option maxRecDepth 100000 in
theorem sb_X8_delay_41 (l : Launch) : sm_SndB l RX8 "delay" cX8_delay 3 1 4 41 [oIr] := sb_cons (sd_ireturn (x := 0) rfl (by decide +kernel : decode cX8_delay 41 = .ok (.ireturn, 1))) sb_nil
theorem sn_X8_delay (l : Launch) : sm_SndT l RX8 "delay" cX8_delay 3 1 4 tb_X8_delay := st_cons (sb_X8_delay_0 l) (st_cons (sb_X8_delay_4 l) (st_cons (sb_X8_delay_28 l) (st_cons (sb_X8_delay_40 l) (st_cons (sb_X8_delay_41 l) (st_nil)))))
set_option maxRecDepth 100000 in
set_option maxHeartbeats 4000000 in
theorem ok_X8_delay : sm_Ok tb_X8_delay 3 0 0 p_X8_delay f_X8_delay := by
  intro as w hp ha hw
  match as, hp with
  | [.inr (.inl m)], hp =>
  refine ⟨Nat.le_of_ble_eq_true rfl, fun Z hZ => ?_⟩
  obtain ⟨rfl, hO, hR⟩ := hp
  have hT := hO.1
  have hm := vOK_many hO.2
  have hl := sm_loopI Z 4 0 (wI w 155 1) (fun i => [some (.inr (.inl 154)), some (.inl (mDlS w i)), some (.inl i)]) (fun _ => w) 0 0 hm.1 (fun i h0 h1 ih => by
    have hb := mDlS_b hO hR i h0 h1
    have hd := fun hlt => mDelay_b hO hR h0 hlt
    have hu : mDlS w (i + 1) = mDlS w i + mDelay w i := itI_s _ _ h0
    have hx1 : i = wI w 155 1 → mDlS w i = mDlS w (wI w 155 1) := fun e => by rw [e]
    rw [hu] at ih
    refine hZ (fun u => Nat.beq u 4) 14 4 _ _ _ _ _ ?_
    simp only [sm_run, sm_blk, sm_get, sm_ent, sm_ents, sm_wds, sm_wd, sm_nl, sm_pop, sm_back, sm_cases, oK, oLK, oL, oI, oA, oJ, oIs, oAs, oJs, oInc, oAdd, oSub, oMul, oDiv, oRem, oNeg, oAnd, oAndB, oOr, oShl, oI2c, oI2l, oL2i, oLand, oLor, oLshl, oLshr, oLushr, oLcmp, oDup, oDup2, oPop, oGo, oFg, oEq, oNe, oLt, oGe, oGt, oLe, oEq0, oNe0, oLt0, oGe0, oGt0, oLe0, oSw, oGi, oGr, oPi, oPz, oPr, oLen, oIl, oZl, oCl, oRl, oIst, oZst, oCst, oRst, oCopy, oNew, oNa, oNa2, oObj, oCs, oCv, oCi, oIr, oZr, oVr, Nat.beq, List.getElem?_cons_zero, List.getElem?_cons_succ, List.set_cons_zero, List.set_cons_succ, List.length_cons, List.length_nil, List.nil_append, List.cons_append, List.append_nil, List.replicate_succ, List.replicate_zero, Nat.reduceAdd, Nat.reduceSub, Nat.reduceLT, Nat.reduceLeDiff, Nat.reduceBEq, true_and, and_true, Nat.zero_add, Nat.add_zero, Nat.le_refl, Option.some.injEq, exists_eq_left', true_or, or_true, or_false, false_or, reduceCtorEq, Prod.mk.injEq, Sum.inl.injEq, and_self, false_and, and_false, not_true_eq_false, not_false_eq_true, false_implies, true_implies, sm_r, Int.add_zero, Int.zero_add, wI_wsI, wS_wsI, wR_wsI, wI_wCp, wS_wCp, wR_wCp, Nat.reduceEqDiff, reduceIte, sT_iff, sT_iffC, wIf_ne, ne_eq, Bool.false_or, Bool.true_or, Bool.or_false, Bool.or_true, Bool.or_self, tb_X8_delay, p_X8_delayOf, f_X8_delayOf, p_X8_delay, f_X8_delay, sS_154 hT, sR_154_0 hT, sS_155 hT, hT, hO, hR]
    repeat' (first | exact True.intro | with_reducible assumption | with_reducible refine And.intro ?_ ?_ | intro _)
    all_goals first
      | omega
      | assumption
      | rfl
      | (split <;> omega)
      | (have k9 := ih (by omega)
         (repeat' split at k9) <;> first | exact k9 | omega)
      | (have k9 := ih2 (by omega)
         (repeat' split at k9) <;> first | exact k9 | omega)
      | exact he (by omega)
      | (congr 1; omega)
      | (rw [if_pos (by omega)] at he; exact he)
      | exact hD1 (by omega)
      | exact hD2 (by omega)
      | grind [mDl]
      | skip
    )
  refine hZ (fun u => Nat.beq u 4) 14 0 _ _ _ _ _ ?_
  simp only [sm_run, sm_blk, sm_get, sm_ent, sm_ents, sm_wds, sm_wd, sm_nl, sm_pop, sm_back, sm_cases, oK, oLK, oL, oI, oA, oJ, oIs, oAs, oJs, oInc, oAdd, oSub, oMul, oDiv, oRem, oNeg, oAnd, oAndB, oOr, oShl, oI2c, oI2l, oL2i, oLand, oLor, oLshl, oLshr, oLushr, oLcmp, oDup, oDup2, oPop, oGo, oFg, oEq, oNe, oLt, oGe, oGt, oLe, oEq0, oNe0, oLt0, oGe0, oGt0, oLe0, oSw, oGi, oGr, oPi, oPz, oPr, oLen, oIl, oZl, oCl, oRl, oIst, oZst, oCst, oRst, oCopy, oNew, oNa, oNa2, oObj, oCs, oCv, oCi, oIr, oZr, oVr, Nat.beq, List.getElem?_cons_zero, List.getElem?_cons_succ, List.set_cons_zero, List.set_cons_succ, List.length_cons, List.length_nil, List.nil_append, List.cons_append, List.append_nil, List.replicate_succ, List.replicate_zero, Nat.reduceAdd, Nat.reduceSub, Nat.reduceLT, Nat.reduceLeDiff, Nat.reduceBEq, true_and, and_true, Nat.zero_add, Nat.add_zero, Nat.le_refl, Option.some.injEq, exists_eq_left', true_or, or_true, or_false, false_or, reduceCtorEq, Prod.mk.injEq, Sum.inl.injEq, and_self, false_and, and_false, not_true_eq_false, not_false_eq_true, false_implies, true_implies, sm_r, Int.add_zero, Int.zero_add, wI_wsI, wS_wsI, wR_wsI, wI_wCp, wS_wCp, wR_wCp, Nat.reduceEqDiff, reduceIte, sT_iff, sT_iffC, wIf_ne, ne_eq, Bool.false_or, Bool.true_or, Bool.or_false, Bool.or_true, Bool.or_self, tb_X8_delay, p_X8_delayOf, f_X8_delayOf, p_X8_delay, f_X8_delay]
  repeat' (first | exact True.intro | with_reducible assumption | with_reducible refine And.intro ?_ ?_ | intro _)
  all_goals first
    | omega
    | assumption
    | rfl
    | (split <;> omega)
    | (have k9 := ih (by omega)
       (repeat' split at k9) <;> first | exact k9 | omega)
    | (have k9 := ih2 (by omega)
       (repeat' split at k9) <;> first | exact k9 | omega)
    | exact he (by omega)
    | (congr 1; omega)
    | (rw [if_pos (by omega)] at he; exact he)
    | exact hD1 (by omega)
    | exact hD2 (by omega)
    | skip
theorem met_X8_delay (l : Launch) : sm_Met l yX8_delay cX8_delay 3 (some .int) 4 0 0 p_X8_delay f_X8_delay := sm_met 1 (Or.inr (Or.inl ⟨rfl, rfl⟩)) (by decide +kernel) (sn_X8_delay l) ok_X8_delay
def mWtd (w : sm_W) (x : Int) : Int := wI w 169 (4 * x + 1) + wI w 169 (4 * x + 2) + wI w 169 (4 * x + 3)
def p_X8_waited : List sm_V → sm_W → Prop
  | [.inr (.inl m), .inl x], w => m = 154 ∧ sT w ∧ 0 ≤ x ∧ x < 8 ∧ mRec w
  | _, _ => False
def f_X8_waited : sm_F
  | [.inr (.inl m), .inl x], w => (some (.inl (mWtd w x)), w)
  | _, w => (none, w)
def tb_X8_waited : List (Nat × List sm_O) := [(0, [oA 0, oGr 8 30 16, oK 4, oI 1, oMul, oK 1, oAdd, oIl, oA 0, oGr 8 30 16, oK 4, oI 1, oMul, oK 2, oAdd, oIl, oAdd, oA 0, oGr 8 30 16, oK 4, oI 1, oMul, oK 3, oAdd, oIl, oAdd, oIr])]
set_option maxRecDepth 100000 in
theorem sb_X8_waited_0 (l : Launch) : sm_SndB l RX8 "waited" cX8_waited 2 1 0 0 [oA 0, oGr 8 30 16, oK 4, oI 1, oMul, oK 1, oAdd, oIl, oA 0, oGr 8 30 16, oK 4, oI 1, oMul, oK 2, oAdd, oIl, oAdd, oA 0, oGr 8 30 16, oK 4, oI 1, oMul, oK 3, oAdd, oIl, oAdd, oIr] := sb_cons (sd_aload_n (by decide +kernel : decode cX8_waited 0 = .ok (.aload_n 0, 1)) rfl) (sb_cons (sd_getr (k := 16) kl_8 (by decide) rfl wm_689 (by decide +kernel : decode cX8_waited 1 = .ok (.getfield 53, 3))) (sb_cons (sd_iconst (by decide +kernel : decode cX8_waited 4 = .ok (.iconst 4, 1)) ⟨by decide, by decide⟩) (sb_cons (sd_iload_n (by decide +kernel : decode cX8_waited 5 = .ok (.iload_n 1, 1)) rfl) (sb_cons (sd_imul (by decide +kernel : decode cX8_waited 6 = .ok (.imul, 1))) (sb_cons (sd_iconst (by decide +kernel : decode cX8_waited 7 = .ok (.iconst 1, 1)) ⟨by decide, by decide⟩) (sb_cons (sd_iadd (by decide +kernel : decode cX8_waited 8 = .ok (.iadd, 1))) (sb_cons (sd_iaload (by decide +kernel : decode cX8_waited 9 = .ok (.iaload, 1))) (sb_cons (sd_aload_n (by decide +kernel : decode cX8_waited 10 = .ok (.aload_n 0, 1)) rfl) (sb_cons (sd_getr (k := 16) kl_8 (by decide) rfl wm_689 (by decide +kernel : decode cX8_waited 11 = .ok (.getfield 53, 3))) (sb_cons (sd_iconst (by decide +kernel : decode cX8_waited 14 = .ok (.iconst 4, 1)) ⟨by decide, by decide⟩) (sb_cons (sd_iload_n (by decide +kernel : decode cX8_waited 15 = .ok (.iload_n 1, 1)) rfl) (sb_cons (sd_imul (by decide +kernel : decode cX8_waited 16 = .ok (.imul, 1))) (sb_cons (sd_iconst (by decide +kernel : decode cX8_waited 17 = .ok (.iconst 2, 1)) ⟨by decide, by decide⟩) (sb_cons (sd_iadd (by decide +kernel : decode cX8_waited 18 = .ok (.iadd, 1))) (sb_cons (sd_iaload (by decide +kernel : decode cX8_waited 19 = .ok (.iaload, 1))) (sb_cons (sd_iadd (by decide +kernel : decode cX8_waited 20 = .ok (.iadd, 1))) (sb_cons (sd_aload_n (by decide +kernel : decode cX8_waited 21 = .ok (.aload_n 0, 1)) rfl) (sb_cons (sd_getr (k := 16) kl_8 (by decide) rfl wm_689 (by decide +kernel : decode cX8_waited 22 = .ok (.getfield 53, 3))) (sb_cons (sd_iconst (by decide +kernel : decode cX8_waited 25 = .ok (.iconst 4, 1)) ⟨by decide, by decide⟩) (sb_cons (sd_iload_n (by decide +kernel : decode cX8_waited 26 = .ok (.iload_n 1, 1)) rfl) (sb_cons (sd_imul (by decide +kernel : decode cX8_waited 27 = .ok (.imul, 1))) (sb_cons (sd_iconst (by decide +kernel : decode cX8_waited 28 = .ok (.iconst 3, 1)) ⟨by decide, by decide⟩) (sb_cons (sd_iadd (by decide +kernel : decode cX8_waited 29 = .ok (.iadd, 1))) (sb_cons (sd_iaload (by decide +kernel : decode cX8_waited 30 = .ok (.iaload, 1))) (sb_cons (sd_iadd (by decide +kernel : decode cX8_waited 31 = .ok (.iadd, 1))) (sb_cons (sd_ireturn (x := 0) rfl (by decide +kernel : decode cX8_waited 32 = .ok (.ireturn, 1))) sb_nil))))))))))))))))))))))))))
theorem sn_X8_waited (l : Launch) : sm_SndT l RX8 "waited" cX8_waited 2 1 0 tb_X8_waited := st_cons (sb_X8_waited_0 l) (st_nil)
set_option maxRecDepth 100000 in
set_option maxHeartbeats 4000000 in
theorem ok_X8_waited : sm_Ok tb_X8_waited 2 0 0 p_X8_waited f_X8_waited := by
  intro as w hp ha hw
  match as, hp with
  | [.inr (.inl m), .inl x], hp =>
  refine ⟨Nat.le_of_ble_eq_true rfl, fun Z hZ => ?_⟩
  obtain ⟨rfl, hT, h1, h2, hR⟩ := hp
  have c1 := hR.2.2.2 (4 * x + 1)
  have c2 := hR.2.2.2 (4 * x + 2)
  have c3 := hR.2.2.2 (4 * x + 3)
  refine hZ (fun _ => false) 16 0 _ _ _ _ _ ?_
  simp only [sm_run, sm_blk, sm_get, sm_ent, sm_ents, sm_wds, sm_wd, sm_nl, sm_pop, sm_back, sm_cases, oK, oLK, oL, oI, oA, oJ, oIs, oAs, oJs, oInc, oAdd, oSub, oMul, oDiv, oRem, oNeg, oAnd, oAndB, oOr, oShl, oI2c, oI2l, oL2i, oLand, oLor, oLshl, oLshr, oLushr, oLcmp, oDup, oDup2, oPop, oGo, oFg, oEq, oNe, oLt, oGe, oGt, oLe, oEq0, oNe0, oLt0, oGe0, oGt0, oLe0, oSw, oGi, oGr, oPi, oPz, oPr, oLen, oIl, oZl, oCl, oRl, oIst, oZst, oCst, oRst, oCopy, oNew, oNa, oNa2, oObj, oCs, oCv, oCi, oIr, oZr, oVr, Nat.beq, List.getElem?_cons_zero, List.getElem?_cons_succ, List.set_cons_zero, List.set_cons_succ, List.length_cons, List.length_nil, List.nil_append, List.cons_append, List.append_nil, List.replicate_succ, List.replicate_zero, Nat.reduceAdd, Nat.reduceSub, Nat.reduceLT, Nat.reduceLeDiff, Nat.reduceBEq, true_and, and_true, Nat.zero_add, Nat.add_zero, Nat.le_refl, Option.some.injEq, exists_eq_left', true_or, or_true, or_false, false_or, reduceCtorEq, Prod.mk.injEq, Sum.inl.injEq, and_self, false_and, and_false, not_true_eq_false, not_false_eq_true, false_implies, true_implies, sm_r, Int.add_zero, Int.zero_add, wI_wsI, wS_wsI, wR_wsI, wI_wCp, wS_wCp, wR_wCp, Nat.reduceEqDiff, reduceIte, sT_iff, sT_iffC, wIf_ne, ne_eq, Bool.false_or, Bool.true_or, Bool.or_false, Bool.or_true, Bool.or_self, tb_X8_waited, p_X8_waited, f_X8_waited, sS_154 hT, sR_154_16 hT, sS_169 hT, hT]
  repeat' (first | exact True.intro | with_reducible assumption | with_reducible refine And.intro ?_ ?_ | intro _)
  all_goals first
    | omega
    | assumption
    | rfl
    | (split <;> omega)
    | skip
theorem met_X8_waited (l : Launch) : sm_Met l yX8_waited cX8_waited 2 (some .int) 0 0 0 p_X8_waited f_X8_waited := sm_met 1 (Or.inr (Or.inl ⟨rfl, rfl⟩)) (by decide +kernel) (sn_X8_waited l) ok_X8_waited
def mBl1 (w : sm_W) (x y : Int) (r : Int × Int) : Int × Int := if r.2 < wI w 168 (8 * x + y) then (y, wI w 168 (8 * x + y)) else r
def mBlm (w : sm_W) (x : Int) : Int → Int × Int := itI (mBl1 w x) (-6, 0)
def p_X8_blamed : List sm_V → sm_W → Prop
  | [.inr (.inl m), .inl x], w => m = 154 ∧ mOK w ∧ 0 ≤ x ∧ x < wI w 155 1
  | _, _ => False
def f_X8_blamed : sm_F
  | [.inr (.inl m), .inl x], w => (some (.inl (mBlm w x (wI w 155 1)).1), w)
  | _, w => (none, w)
def tb_X8_blamed : List (Nat × List sm_O) := [(0, [oK (-6), oIs 2, oK 0, oIs 3, oK 0, oIs 4, oGo 8]),
  (8, [oI 4, oA 0, oGr 8 30 0, oK 1, oIl, oGe 57, oA 0, oGr 8 30 15, oK 8, oI 1, oMul, oI 4, oAdd, oIl, oI 3, oLe 51, oI 4, oIs 2, oA 0, oGr 8 30 15, oK 8, oI 1, oMul, oI 4, oAdd, oIl, oIs 3, oGo 51]),
  (51, [oInc 4 1, oGo 8]),
  (57, [oI 2, oIr])]
set_option maxRecDepth 100000 in
theorem sb_X8_blamed_0 (l : Launch) : sm_SndB l RX8 "blamed" cX8_blamed 5 1 0 0 [oK (-6), oIs 2, oK 0, oIs 3, oK 0, oIs 4, oGo 8] := sb_cons (sd_bipush (by decide +kernel : decode cX8_blamed 0 = .ok (.bipush (-6), 2)) ⟨by decide, by decide⟩ (by decide)) (sb_cons (sd_istore_n (by decide +kernel : decode cX8_blamed 2 = .ok (.istore_n 2, 1)) rfl) (sb_cons (sd_iconst (by decide +kernel : decode cX8_blamed 3 = .ok (.iconst 0, 1)) ⟨by decide, by decide⟩) (sb_cons (sd_istore_n (by decide +kernel : decode cX8_blamed 4 = .ok (.istore_n 3, 1)) rfl) (sb_cons (sd_iconst (by decide +kernel : decode cX8_blamed 5 = .ok (.iconst 0, 1)) ⟨by decide, by decide⟩) (sb_cons (sd_istore (by decide +kernel : decode cX8_blamed 6 = .ok (.istore 4, 2))) (sb_cons (sd_fall (x := 0)) sb_nil))))))
set_option maxRecDepth 100000 in
theorem sb_X8_blamed_8 (l : Launch) : sm_SndB l RX8 "blamed" cX8_blamed 5 1 0 8 [oI 4, oA 0, oGr 8 30 0, oK 1, oIl, oGe 57, oA 0, oGr 8 30 15, oK 8, oI 1, oMul, oI 4, oAdd, oIl, oI 3, oLe 51, oI 4, oIs 2, oA 0, oGr 8 30 15, oK 8, oI 1, oMul, oI 4, oAdd, oIl, oIs 3, oGo 51] := sb_cons (sd_iload (by decide +kernel : decode cX8_blamed 8 = .ok (.iload 4, 2))) (sb_cons (sd_aload_n (by decide +kernel : decode cX8_blamed 10 = .ok (.aload_n 0, 1)) rfl) (sb_cons (sd_getr (k := 0) kl_8 (by decide) rfl wm_673 (by decide +kernel : decode cX8_blamed 11 = .ok (.getfield 7, 3))) (sb_cons (sd_iconst (by decide +kernel : decode cX8_blamed 14 = .ok (.iconst 1, 1)) ⟨by decide, by decide⟩) (sb_cons (sd_iaload (by decide +kernel : decode cX8_blamed 15 = .ok (.iaload, 1))) (sb_cons (sd_ge (by decide +kernel : decode cX8_blamed 16 = .ok (.if_icmp .ge 41, 3)) (by decide)) (sb_cons (sd_aload_n (by decide +kernel : decode cX8_blamed 19 = .ok (.aload_n 0, 1)) rfl) (sb_cons (sd_getr (k := 15) kl_8 (by decide) rfl wm_688 (by decide +kernel : decode cX8_blamed 20 = .ok (.getfield 50, 3))) (sb_cons (sd_bipush (by decide +kernel : decode cX8_blamed 23 = .ok (.bipush 8, 2)) ⟨by decide, by decide⟩ (by decide)) (sb_cons (sd_iload_n (by decide +kernel : decode cX8_blamed 25 = .ok (.iload_n 1, 1)) rfl) (sb_cons (sd_imul (by decide +kernel : decode cX8_blamed 26 = .ok (.imul, 1))) (sb_cons (sd_iload (by decide +kernel : decode cX8_blamed 27 = .ok (.iload 4, 2))) (sb_cons (sd_iadd (by decide +kernel : decode cX8_blamed 29 = .ok (.iadd, 1))) (sb_cons (sd_iaload (by decide +kernel : decode cX8_blamed 30 = .ok (.iaload, 1))) (sb_cons (sd_iload_n (by decide +kernel : decode cX8_blamed 31 = .ok (.iload_n 3, 1)) rfl) (sb_cons (sd_le (by decide +kernel : decode cX8_blamed 32 = .ok (.if_icmp .le 19, 3)) (by decide)) (sb_cons (sd_iload (by decide +kernel : decode cX8_blamed 35 = .ok (.iload 4, 2))) (sb_cons (sd_istore_n (by decide +kernel : decode cX8_blamed 37 = .ok (.istore_n 2, 1)) rfl) (sb_cons (sd_aload_n (by decide +kernel : decode cX8_blamed 38 = .ok (.aload_n 0, 1)) rfl) (sb_cons (sd_getr (k := 15) kl_8 (by decide) rfl wm_688 (by decide +kernel : decode cX8_blamed 39 = .ok (.getfield 50, 3))) (sb_cons (sd_bipush (by decide +kernel : decode cX8_blamed 42 = .ok (.bipush 8, 2)) ⟨by decide, by decide⟩ (by decide)) (sb_cons (sd_iload_n (by decide +kernel : decode cX8_blamed 44 = .ok (.iload_n 1, 1)) rfl) (sb_cons (sd_imul (by decide +kernel : decode cX8_blamed 45 = .ok (.imul, 1))) (sb_cons (sd_iload (by decide +kernel : decode cX8_blamed 46 = .ok (.iload 4, 2))) (sb_cons (sd_iadd (by decide +kernel : decode cX8_blamed 48 = .ok (.iadd, 1))) (sb_cons (sd_iaload (by decide +kernel : decode cX8_blamed 49 = .ok (.iaload, 1))) (sb_cons (sd_istore_n (by decide +kernel : decode cX8_blamed 50 = .ok (.istore_n 3, 1)) rfl) (sb_cons (sd_fall (x := 0)) sb_nil)))))))))))))))))))))))))))
set_option maxRecDepth 100000 in
theorem sb_X8_blamed_51 (l : Launch) : sm_SndB l RX8 "blamed" cX8_blamed 5 1 0 51 [oInc 4 1, oGo 8] := sb_cons (sd_iinc (by decide +kernel : decode cX8_blamed 51 = .ok (.iinc 4 1, 3))) (sb_cons (sd_goto (x := 0) (by decide +kernel : decode cX8_blamed 54 = .ok (.goto (-46), 3)) (by decide)) sb_nil)
set_option maxRecDepth 100000 in
theorem sb_X8_blamed_57 (l : Launch) : sm_SndB l RX8 "blamed" cX8_blamed 5 1 0 57 [oI 2, oIr] := sb_cons (sd_iload_n (by decide +kernel : decode cX8_blamed 57 = .ok (.iload_n 2, 1)) rfl) (sb_cons (sd_ireturn (x := 0) rfl (by decide +kernel : decode cX8_blamed 58 = .ok (.ireturn, 1))) sb_nil)
theorem sn_X8_blamed (l : Launch) : sm_SndT l RX8 "blamed" cX8_blamed 5 1 0 tb_X8_blamed := st_cons (sb_X8_blamed_0 l) (st_cons (sb_X8_blamed_8 l) (st_cons (sb_X8_blamed_51 l) (st_cons (sb_X8_blamed_57 l) (st_nil))))
set_option maxRecDepth 100000 in
set_option maxHeartbeats 4000000 in
theorem ok_X8_blamed : sm_Ok tb_X8_blamed 5 0 0 p_X8_blamed f_X8_blamed := by
  intro as w hp ha hw
  match as, hp with
  | [.inr (.inl m), .inl x], hp =>
  refine ⟨Nat.le_of_ble_eq_true rfl, fun Z hZ => ?_⟩
  obtain ⟨rfl, ⟨hT, hv⟩, h1, h2⟩ := hp
  have hm := vOK_many hv
  have hl := sm_loopI Z 8 0 (wI w 155 1) (fun i => [some (.inr (.inl 154)), some (.inl x), some (.inl (mBlm w x i).1), some (.inl (mBlm w x i).2), some (.inl i)]) (fun _ => w) 0 0 hm.1 (fun i h0 h3 ih => by
    have hu : mBlm w x (i + 1) = mBl1 w x i (mBlm w x i) := itI_s _ _ h0
    have hx1 : i = wI w 155 1 → (mBlm w x i).1 = (mBlm w x (wI w 155 1)).1 := fun e => by rw [e]
    rw [hu] at ih
    unfold mBl1 at ih
    by_cases hc : (mBlm w x i).2 < wI w 168 (8 * x + i)
    · rw [if_pos hc] at ih
      refine hZ (fun u => Nat.beq u 8) 14 8 _ _ _ _ _ ?_
      simp only [sm_run, sm_blk, sm_get, sm_ent, sm_ents, sm_wds, sm_wd, sm_nl, sm_pop, sm_back, sm_cases, oK, oLK, oL, oI, oA, oJ, oIs, oAs, oJs, oInc, oAdd, oSub, oMul, oDiv, oRem, oNeg, oAnd, oAndB, oOr, oShl, oI2c, oI2l, oL2i, oLand, oLor, oLshl, oLshr, oLushr, oLcmp, oDup, oDup2, oPop, oGo, oFg, oEq, oNe, oLt, oGe, oGt, oLe, oEq0, oNe0, oLt0, oGe0, oGt0, oLe0, oSw, oGi, oGr, oPi, oPz, oPr, oLen, oIl, oZl, oCl, oRl, oIst, oZst, oCst, oRst, oCopy, oNew, oNa, oNa2, oObj, oCs, oCv, oCi, oIr, oZr, oVr, Nat.beq, List.getElem?_cons_zero, List.getElem?_cons_succ, List.set_cons_zero, List.set_cons_succ, List.length_cons, List.length_nil, List.nil_append, List.cons_append, List.append_nil, List.replicate_succ, List.replicate_zero, Nat.reduceAdd, Nat.reduceSub, Nat.reduceLT, Nat.reduceLeDiff, Nat.reduceBEq, true_and, and_true, Nat.zero_add, Nat.add_zero, Nat.le_refl, Option.some.injEq, exists_eq_left', true_or, or_true, or_false, false_or, reduceCtorEq, Prod.mk.injEq, Sum.inl.injEq, and_self, false_and, and_false, not_true_eq_false, not_false_eq_true, false_implies, true_implies, sm_r, Int.add_zero, Int.zero_add, wI_wsI, wS_wsI, wR_wsI, wI_wCp, wS_wCp, wR_wCp, Nat.reduceEqDiff, reduceIte, sT_iff, sT_iffC, wIf_ne, ne_eq, Bool.false_or, Bool.true_or, Bool.or_false, Bool.or_true, Bool.or_self, tb_X8_blamed, p_X8_blamed, f_X8_blamed, sS_154 hT, sR_154_0 hT, sS_155 hT, sR_154_15 hT, sS_168 hT]
      repeat' (first | exact True.intro | with_reducible assumption | with_reducible refine And.intro ?_ ?_ | intro _)
      all_goals first
        | omega
        | assumption
        | rfl
        | (split <;> omega)
        | (have k9 := ih (by omega)
           (repeat' split at k9) <;> first | exact k9 | omega)
        | (have k9 := ih2 (by omega)
           (repeat' split at k9) <;> first | exact k9 | omega)
        | exact he (by omega)
        | (congr 1; omega)
        | (rw [if_pos (by omega)] at he; exact he)
        | exact hD1 (by omega)
        | exact hD2 (by omega)
        | grind
        | skip
    · rw [if_neg hc] at ih
      refine hZ (fun u => Nat.beq u 8) 14 8 _ _ _ _ _ ?_
      simp only [sm_run, sm_blk, sm_get, sm_ent, sm_ents, sm_wds, sm_wd, sm_nl, sm_pop, sm_back, sm_cases, oK, oLK, oL, oI, oA, oJ, oIs, oAs, oJs, oInc, oAdd, oSub, oMul, oDiv, oRem, oNeg, oAnd, oAndB, oOr, oShl, oI2c, oI2l, oL2i, oLand, oLor, oLshl, oLshr, oLushr, oLcmp, oDup, oDup2, oPop, oGo, oFg, oEq, oNe, oLt, oGe, oGt, oLe, oEq0, oNe0, oLt0, oGe0, oGt0, oLe0, oSw, oGi, oGr, oPi, oPz, oPr, oLen, oIl, oZl, oCl, oRl, oIst, oZst, oCst, oRst, oCopy, oNew, oNa, oNa2, oObj, oCs, oCv, oCi, oIr, oZr, oVr, Nat.beq, List.getElem?_cons_zero, List.getElem?_cons_succ, List.set_cons_zero, List.set_cons_succ, List.length_cons, List.length_nil, List.nil_append, List.cons_append, List.append_nil, List.replicate_succ, List.replicate_zero, Nat.reduceAdd, Nat.reduceSub, Nat.reduceLT, Nat.reduceLeDiff, Nat.reduceBEq, true_and, and_true, Nat.zero_add, Nat.add_zero, Nat.le_refl, Option.some.injEq, exists_eq_left', true_or, or_true, or_false, false_or, reduceCtorEq, Prod.mk.injEq, Sum.inl.injEq, and_self, false_and, and_false, not_true_eq_false, not_false_eq_true, false_implies, true_implies, sm_r, Int.add_zero, Int.zero_add, wI_wsI, wS_wsI, wR_wsI, wI_wCp, wS_wCp, wR_wCp, Nat.reduceEqDiff, reduceIte, sT_iff, sT_iffC, wIf_ne, ne_eq, Bool.false_or, Bool.true_or, Bool.or_false, Bool.or_true, Bool.or_self, tb_X8_blamed, p_X8_blamed, f_X8_blamed, sS_154 hT, sR_154_0 hT, sS_155 hT, sR_154_15 hT, sS_168 hT]
      repeat' (first | exact True.intro | with_reducible assumption | with_reducible refine And.intro ?_ ?_ | intro _)
      all_goals first
        | omega
        | assumption
        | rfl
        | (split <;> omega)
        | (have k9 := ih (by omega)
           (repeat' split at k9) <;> first | exact k9 | omega)
        | (have k9 := ih2 (by omega)
           (repeat' split at k9) <;> first | exact k9 | omega)
        | exact he (by omega)
        | (congr 1; omega)
        | (rw [if_pos (by omega)] at he; exact he)
        | exact hD1 (by omega)
        | exact hD2 (by omega)
        | grind
        | skip
    )
  refine hZ (fun u => Nat.beq u 8) 14 0 _ _ _ _ _ ?_
  simp only [sm_run, sm_blk, sm_get, sm_ent, sm_ents, sm_wds, sm_wd, sm_nl, sm_pop, sm_back, sm_cases, oK, oLK, oL, oI, oA, oJ, oIs, oAs, oJs, oInc, oAdd, oSub, oMul, oDiv, oRem, oNeg, oAnd, oAndB, oOr, oShl, oI2c, oI2l, oL2i, oLand, oLor, oLshl, oLshr, oLushr, oLcmp, oDup, oDup2, oPop, oGo, oFg, oEq, oNe, oLt, oGe, oGt, oLe, oEq0, oNe0, oLt0, oGe0, oGt0, oLe0, oSw, oGi, oGr, oPi, oPz, oPr, oLen, oIl, oZl, oCl, oRl, oIst, oZst, oCst, oRst, oCopy, oNew, oNa, oNa2, oObj, oCs, oCv, oCi, oIr, oZr, oVr, Nat.beq, List.getElem?_cons_zero, List.getElem?_cons_succ, List.set_cons_zero, List.set_cons_succ, List.length_cons, List.length_nil, List.nil_append, List.cons_append, List.append_nil, List.replicate_succ, List.replicate_zero, Nat.reduceAdd, Nat.reduceSub, Nat.reduceLT, Nat.reduceLeDiff, Nat.reduceBEq, true_and, and_true, Nat.zero_add, Nat.add_zero, Nat.le_refl, Option.some.injEq, exists_eq_left', true_or, or_true, or_false, false_or, reduceCtorEq, Prod.mk.injEq, Sum.inl.injEq, and_self, false_and, and_false, not_true_eq_false, not_false_eq_true, false_implies, true_implies, sm_r, Int.add_zero, Int.zero_add, wI_wsI, wS_wsI, wR_wsI, wI_wCp, wS_wCp, wR_wCp, Nat.reduceEqDiff, reduceIte, sT_iff, sT_iffC, wIf_ne, ne_eq, Bool.false_or, Bool.true_or, Bool.or_false, Bool.or_true, Bool.or_self, tb_X8_blamed, p_X8_blamed, f_X8_blamed]
  repeat' (first | exact True.intro | with_reducible assumption | with_reducible refine And.intro ?_ ?_ | intro _)
  all_goals first
    | omega
    | assumption
    | rfl
    | (split <;> omega)
    | (have k9 := ih (by omega)
       (repeat' split at k9) <;> first | exact k9 | omega)
    | (have k9 := ih2 (by omega)
       (repeat' split at k9) <;> first | exact k9 | omega)
    | exact he (by omega)
    | (congr 1; omega)
    | (rw [if_pos (by omega)] at he; exact he)
    | exact hD1 (by omega)
    | exact hD2 (by omega)
    | skip
theorem met_X8_blamed (l : Launch) : sm_Met l yX8_blamed cX8_blamed 5 (some .int) 0 0 0 p_X8_blamed f_X8_blamed := sm_met 1 (Or.inr (Or.inl ⟨rfl, rfl⟩)) (by decide +kernel) (sn_X8_blamed l) ok_X8_blamed
def mMtn (w : sm_W) : Int → Int := itI (fun k r => if wI w 166 k < 0 then r else r + 1) 0
theorem mMtn_b (w : sm_W) (n : Int) (hn : 0 ≤ n) : 0 ≤ mMtn w n ∧ mMtn w n ≤ n := by
  refine itI_ind (fun i r => 0 ≤ r ∧ r ≤ i) n ⟨by decide, by decide⟩ (fun i r h0 h1 h => ?_) n hn (Int.le_refl _)
  split <;> omega
def p_X8_meetings : List sm_V → sm_W → Prop
  | [.inr (.inl m)], w => m = 154 ∧ sT w
  | _, _ => False
def f_X8_meetings : sm_F
  | [.inr (.inl m)], w => (some (.inl (mMtn w 64)), w)
  | _, w => (none, w)
def tb_X8_meetings : List (Nat × List sm_O) := [(0, [oK 0, oIs 1, oK 0, oIs 2, oGo 4]),
  (4, [oI 2, oK 64, oGe 33, oI 1, oA 0, oGr 8 30 13, oI 2, oIl, oLt0 24, oK 1, oGo 25]),
  (24, [oK 0, oGo 25]),
  (25, [oAdd, oIs 1, oInc 2 1, oGo 4]),
  (33, [oI 1, oIr])]
set_option maxRecDepth 100000 in
theorem sb_X8_meetings_0 (l : Launch) : sm_SndB l RX8 "meetings" cX8_meetings 3 1 0 0 [oK 0, oIs 1, oK 0, oIs 2, oGo 4] := sb_cons (sd_iconst (by decide +kernel : decode cX8_meetings 0 = .ok (.iconst 0, 1)) ⟨by decide, by decide⟩) (sb_cons (sd_istore_n (by decide +kernel : decode cX8_meetings 1 = .ok (.istore_n 1, 1)) rfl) (sb_cons (sd_iconst (by decide +kernel : decode cX8_meetings 2 = .ok (.iconst 0, 1)) ⟨by decide, by decide⟩) (sb_cons (sd_istore_n (by decide +kernel : decode cX8_meetings 3 = .ok (.istore_n 2, 1)) rfl) (sb_cons (sd_fall (x := 0)) sb_nil))))
set_option maxRecDepth 100000 in
theorem sb_X8_meetings_4 (l : Launch) : sm_SndB l RX8 "meetings" cX8_meetings 3 1 0 4 [oI 2, oK 64, oGe 33, oI 1, oA 0, oGr 8 30 13, oI 2, oIl, oLt0 24, oK 1, oGo 25] := sb_cons (sd_iload_n (by decide +kernel : decode cX8_meetings 4 = .ok (.iload_n 2, 1)) rfl) (sb_cons (sd_bipush (by decide +kernel : decode cX8_meetings 5 = .ok (.bipush 64, 2)) ⟨by decide, by decide⟩ (by decide)) (sb_cons (sd_ge (by decide +kernel : decode cX8_meetings 7 = .ok (.if_icmp .ge 26, 3)) (by decide)) (sb_cons (sd_iload_n (by decide +kernel : decode cX8_meetings 10 = .ok (.iload_n 1, 1)) rfl) (sb_cons (sd_aload_n (by decide +kernel : decode cX8_meetings 11 = .ok (.aload_n 0, 1)) rfl) (sb_cons (sd_getr (k := 13) kl_8 (by decide) rfl wm_686 (by decide +kernel : decode cX8_meetings 12 = .ok (.getfield 44, 3))) (sb_cons (sd_iload_n (by decide +kernel : decode cX8_meetings 15 = .ok (.iload_n 2, 1)) rfl) (sb_cons (sd_iaload (by decide +kernel : decode cX8_meetings 16 = .ok (.iaload, 1))) (sb_cons (sd_lt0 (by decide +kernel : decode cX8_meetings 17 = .ok (.ifCond .lt 7, 3)) (by decide)) (sb_cons (sd_iconst (by decide +kernel : decode cX8_meetings 20 = .ok (.iconst 1, 1)) ⟨by decide, by decide⟩) (sb_cons (sd_goto (x := 0) (by decide +kernel : decode cX8_meetings 21 = .ok (.goto 4, 3)) (by decide)) sb_nil))))))))))
set_option maxRecDepth 100000 in
theorem sb_X8_meetings_24 (l : Launch) : sm_SndB l RX8 "meetings" cX8_meetings 3 1 0 24 [oK 0, oGo 25] := sb_cons (sd_iconst (by decide +kernel : decode cX8_meetings 24 = .ok (.iconst 0, 1)) ⟨by decide, by decide⟩) (sb_cons (sd_fall (x := 0)) sb_nil)
set_option maxRecDepth 100000 in
theorem sb_X8_meetings_25 (l : Launch) : sm_SndB l RX8 "meetings" cX8_meetings 3 1 0 25 [oAdd, oIs 1, oInc 2 1, oGo 4] := sb_cons (sd_iadd (by decide +kernel : decode cX8_meetings 25 = .ok (.iadd, 1))) (sb_cons (sd_istore_n (by decide +kernel : decode cX8_meetings 26 = .ok (.istore_n 1, 1)) rfl) (sb_cons (sd_iinc (by decide +kernel : decode cX8_meetings 27 = .ok (.iinc 2 1, 3))) (sb_cons (sd_goto (x := 0) (by decide +kernel : decode cX8_meetings 30 = .ok (.goto (-26), 3)) (by decide)) sb_nil)))
set_option maxRecDepth 100000 in
theorem sb_X8_meetings_33 (l : Launch) : sm_SndB l RX8 "meetings" cX8_meetings 3 1 0 33 [oI 1, oIr] := sb_cons (sd_iload_n (by decide +kernel : decode cX8_meetings 33 = .ok (.iload_n 1, 1)) rfl) (sb_cons (sd_ireturn (x := 0) rfl (by decide +kernel : decode cX8_meetings 34 = .ok (.ireturn, 1))) sb_nil)
theorem sn_X8_meetings (l : Launch) : sm_SndT l RX8 "meetings" cX8_meetings 3 1 0 tb_X8_meetings := st_cons (sb_X8_meetings_0 l) (st_cons (sb_X8_meetings_4 l) (st_cons (sb_X8_meetings_24 l) (st_cons (sb_X8_meetings_25 l) (st_cons (sb_X8_meetings_33 l) (st_nil)))))
set_option maxRecDepth 100000 in
set_option maxHeartbeats 4000000 in
theorem ok_X8_meetings : sm_Ok tb_X8_meetings 3 0 0 p_X8_meetings f_X8_meetings := by
  intro as w hp ha hw
  match as, hp with
  | [.inr (.inl m)], hp =>
  refine ⟨Nat.le_of_ble_eq_true rfl, fun Z hZ => ?_⟩
  obtain ⟨rfl, hT⟩ := hp
  have hl := sm_loopI Z 4 0 64 (fun i => [some (.inr (.inl 154)), some (.inl (mMtn w i)), some (.inl i)]) (fun _ => w) 0 0 (by decide) (fun i h0 h1 ih => by
    have hb := mMtn_b w i h0
    have hu : mMtn w (i + 1) = if wI w 166 i < 0 then mMtn w i else mMtn w i + 1 := itI_s _ _ h0
    rw [hu] at ih
    refine hZ (fun u => Nat.beq u 4) 14 4 _ _ _ _ _ ?_
    simp only [sm_run, sm_blk, sm_get, sm_ent, sm_ents, sm_wds, sm_wd, sm_nl, sm_pop, sm_back, sm_cases, oK, oLK, oL, oI, oA, oJ, oIs, oAs, oJs, oInc, oAdd, oSub, oMul, oDiv, oRem, oNeg, oAnd, oAndB, oOr, oShl, oI2c, oI2l, oL2i, oLand, oLor, oLshl, oLshr, oLushr, oLcmp, oDup, oDup2, oPop, oGo, oFg, oEq, oNe, oLt, oGe, oGt, oLe, oEq0, oNe0, oLt0, oGe0, oGt0, oLe0, oSw, oGi, oGr, oPi, oPz, oPr, oLen, oIl, oZl, oCl, oRl, oIst, oZst, oCst, oRst, oCopy, oNew, oNa, oNa2, oObj, oCs, oCv, oCi, oIr, oZr, oVr, Nat.beq, List.getElem?_cons_zero, List.getElem?_cons_succ, List.set_cons_zero, List.set_cons_succ, List.length_cons, List.length_nil, List.nil_append, List.cons_append, List.append_nil, List.replicate_succ, List.replicate_zero, Nat.reduceAdd, Nat.reduceSub, Nat.reduceLT, Nat.reduceLeDiff, Nat.reduceBEq, true_and, and_true, Nat.zero_add, Nat.add_zero, Nat.le_refl, Option.some.injEq, exists_eq_left', true_or, or_true, or_false, false_or, reduceCtorEq, Prod.mk.injEq, Sum.inl.injEq, and_self, false_and, and_false, not_true_eq_false, not_false_eq_true, false_implies, true_implies, sm_r, Int.add_zero, Int.zero_add, wI_wsI, wS_wsI, wR_wsI, wI_wCp, wS_wCp, wR_wCp, Nat.reduceEqDiff, reduceIte, sT_iff, sT_iffC, wIf_ne, ne_eq, Bool.false_or, Bool.true_or, Bool.or_false, Bool.or_true, Bool.or_self, tb_X8_meetings, p_X8_meetings, f_X8_meetings, sS_154 hT, sR_154_13 hT, sS_166 hT]
    repeat' (first | exact True.intro | with_reducible assumption | with_reducible refine And.intro ?_ ?_ | intro _)
    all_goals first
      | omega
      | assumption
      | rfl
      | (split <;> omega)
      | (have k9 := ih (by omega)
         (repeat' split at k9) <;> first | exact k9 | omega)
      | (have k9 := ih2 (by omega)
         (repeat' split at k9) <;> first | exact k9 | omega)
      | exact he (by omega)
      | (congr 1; omega)
      | (rw [if_pos (by omega)] at he; exact he)
      | exact hD1 (by omega)
      | exact hD2 (by omega)
      | grind
      | skip
    )
  refine hZ (fun u => Nat.beq u 4) 14 0 _ _ _ _ _ ?_
  simp only [sm_run, sm_blk, sm_get, sm_ent, sm_ents, sm_wds, sm_wd, sm_nl, sm_pop, sm_back, sm_cases, oK, oLK, oL, oI, oA, oJ, oIs, oAs, oJs, oInc, oAdd, oSub, oMul, oDiv, oRem, oNeg, oAnd, oAndB, oOr, oShl, oI2c, oI2l, oL2i, oLand, oLor, oLshl, oLshr, oLushr, oLcmp, oDup, oDup2, oPop, oGo, oFg, oEq, oNe, oLt, oGe, oGt, oLe, oEq0, oNe0, oLt0, oGe0, oGt0, oLe0, oSw, oGi, oGr, oPi, oPz, oPr, oLen, oIl, oZl, oCl, oRl, oIst, oZst, oCst, oRst, oCopy, oNew, oNa, oNa2, oObj, oCs, oCv, oCi, oIr, oZr, oVr, Nat.beq, List.getElem?_cons_zero, List.getElem?_cons_succ, List.set_cons_zero, List.set_cons_succ, List.length_cons, List.length_nil, List.nil_append, List.cons_append, List.append_nil, List.replicate_succ, List.replicate_zero, Nat.reduceAdd, Nat.reduceSub, Nat.reduceLT, Nat.reduceLeDiff, Nat.reduceBEq, true_and, and_true, Nat.zero_add, Nat.add_zero, Nat.le_refl, Option.some.injEq, exists_eq_left', true_or, or_true, or_false, false_or, reduceCtorEq, Prod.mk.injEq, Sum.inl.injEq, and_self, false_and, and_false, not_true_eq_false, not_false_eq_true, false_implies, true_implies, sm_r, Int.add_zero, Int.zero_add, wI_wsI, wS_wsI, wR_wsI, wI_wCp, wS_wCp, wR_wCp, Nat.reduceEqDiff, reduceIte, sT_iff, sT_iffC, wIf_ne, ne_eq, Bool.false_or, Bool.true_or, Bool.or_false, Bool.or_true, Bool.or_self, tb_X8_meetings, p_X8_meetings, f_X8_meetings]
  repeat' (first | exact True.intro | with_reducible assumption | with_reducible refine And.intro ?_ ?_ | intro _)
  all_goals first
    | omega
    | assumption
    | rfl
    | (split <;> omega)
    | (have k9 := ih (by omega)
       (repeat' split at k9) <;> first | exact k9 | omega)
    | (have k9 := ih2 (by omega)
       (repeat' split at k9) <;> first | exact k9 | omega)
    | exact he (by omega)
    | (congr 1; omega)
    | (rw [if_pos (by omega)] at he; exact he)
    | exact hD1 (by omega)
    | exact hD2 (by omega)
    | skip
theorem met_X8_meetings (l : Launch) : sm_Met l yX8_meetings cX8_meetings 3 (some .int) 0 0 0 p_X8_meetings f_X8_meetings := sm_met 1 (Or.inr (Or.inl ⟨rfl, rfl⟩)) (by decide +kernel) (sn_X8_meetings l) ok_X8_meetings
def mAw (w : sm_W) : Int → Int := itI (fun x r => r + mWtd w x) 0
theorem mAw_b {w : sm_W} (hR : mRec w) (n : Int) (h0 : 0 ≤ n) : 0 ≤ mAw w n ∧ mAw w n ≤ 6000000 * n := by
  refine itI_ind (fun i r => 0 ≤ r ∧ r ≤ 6000000 * i) n ⟨by decide, by decide⟩ (fun i r i0 i1 hr => ?_) n h0 (Int.le_refl _)
  have c1 := hR.2.2.2 (4 * i + 1)
  have c2 := hR.2.2.2 (4 * i + 2)
  have c3 := hR.2.2.2 (4 * i + 3)
  unfold mWtd
  omega
def p_X8_allWaits : List sm_V → sm_W → Prop
  | [.inr (.inl m)], w => m = 154 ∧ mOK w ∧ mRec w
  | _, _ => False
def f_X8_allWaits : sm_F
  | [.inr (.inl m)], w => (some (.inl (mAw w (wI w 155 1))), w)
  | _, w => (none, w)
def tb_X8_allWaits : List (Nat × List sm_O) := [(0, [oK 0, oIs 1, oK 0, oIs 2, oGo 4]),
  (4, [oI 2, oA 0, oGr 8 30 0, oK 1, oIl, oGe 28, oI 1, oA 0, oI 2, oCv 8 30 p_X8_waited f_X8_waited 0 0 2, oAdd, oIs 1, oInc 2 1, oGo 4]),
  (28, [oI 1, oIr])]
set_option maxRecDepth 100000 in
theorem sb_X8_allWaits_0 (l : Launch) : sm_SndB l RX8 "allWaits" cX8_allWaits 3 1 1 0 [oK 0, oIs 1, oK 0, oIs 2, oGo 4] := sb_cons (sd_iconst (by decide +kernel : decode cX8_allWaits 0 = .ok (.iconst 0, 1)) ⟨by decide, by decide⟩) (sb_cons (sd_istore_n (by decide +kernel : decode cX8_allWaits 1 = .ok (.istore_n 1, 1)) rfl) (sb_cons (sd_iconst (by decide +kernel : decode cX8_allWaits 2 = .ok (.iconst 0, 1)) ⟨by decide, by decide⟩) (sb_cons (sd_istore_n (by decide +kernel : decode cX8_allWaits 3 = .ok (.istore_n 2, 1)) rfl) (sb_cons (sd_fall (x := 0)) sb_nil))))
set_option maxRecDepth 100000 in
theorem sb_X8_allWaits_4 (l : Launch) : sm_SndB l RX8 "allWaits" cX8_allWaits 3 1 1 4 [oI 2, oA 0, oGr 8 30 0, oK 1, oIl, oGe 28, oI 1, oA 0, oI 2, oCv 8 30 p_X8_waited f_X8_waited 0 0 2, oAdd, oIs 1, oInc 2 1, oGo 4] := sb_cons (sd_iload_n (by decide +kernel : decode cX8_allWaits 4 = .ok (.iload_n 2, 1)) rfl) (sb_cons (sd_aload_n (by decide +kernel : decode cX8_allWaits 5 = .ok (.aload_n 0, 1)) rfl) (sb_cons (sd_getr (k := 0) kl_8 (by decide) rfl wm_673 (by decide +kernel : decode cX8_allWaits 6 = .ok (.getfield 7, 3))) (sb_cons (sd_iconst (by decide +kernel : decode cX8_allWaits 9 = .ok (.iconst 1, 1)) ⟨by decide, by decide⟩) (sb_cons (sd_iaload (by decide +kernel : decode cX8_allWaits 10 = .ok (.iaload, 1))) (sb_cons (sd_ge (by decide +kernel : decode cX8_allWaits 11 = .ok (.if_icmp .ge 17, 3)) (by decide)) (sb_cons (sd_iload_n (by decide +kernel : decode cX8_allWaits 14 = .ok (.iload_n 1, 1)) rfl) (sb_cons (sd_aload_n (by decide +kernel : decode cX8_allWaits 15 = .ok (.aload_n 0, 1)) rfl) (sb_cons (sd_iload_n (by decide +kernel : decode cX8_allWaits 16 = .ok (.iload_n 2, 1)) rfl) (sb_cons (sd_callv (n := 1) (met_X8_waited l) (by decide) (by decide) wm_889 wm_887 wm_10 ⟨by decide +kernel, by decide +kernel, by decide +kernel⟩ kl_8 wm_888 wm_1136 (by decide +kernel : decode cX8_allWaits 17 = .ok (.invokevirtual 214, 3))) (sb_cons (sd_iadd (by decide +kernel : decode cX8_allWaits 20 = .ok (.iadd, 1))) (sb_cons (sd_istore_n (by decide +kernel : decode cX8_allWaits 21 = .ok (.istore_n 1, 1)) rfl) (sb_cons (sd_iinc (by decide +kernel : decode cX8_allWaits 22 = .ok (.iinc 2 1, 3))) (sb_cons (sd_goto (x := 0) (by decide +kernel : decode cX8_allWaits 25 = .ok (.goto (-21), 3)) (by decide)) sb_nil)))))))))))))
set_option maxRecDepth 100000 in
theorem sb_X8_allWaits_28 (l : Launch) : sm_SndB l RX8 "allWaits" cX8_allWaits 3 1 1 28 [oI 1, oIr] := sb_cons (sd_iload_n (by decide +kernel : decode cX8_allWaits 28 = .ok (.iload_n 1, 1)) rfl) (sb_cons (sd_ireturn (x := 0) rfl (by decide +kernel : decode cX8_allWaits 29 = .ok (.ireturn, 1))) sb_nil)
theorem sn_X8_allWaits (l : Launch) : sm_SndT l RX8 "allWaits" cX8_allWaits 3 1 1 tb_X8_allWaits := st_cons (sb_X8_allWaits_0 l) (st_cons (sb_X8_allWaits_4 l) (st_cons (sb_X8_allWaits_28 l) (st_nil)))
set_option maxRecDepth 100000 in
set_option maxHeartbeats 4000000 in
theorem ok_X8_allWaits : sm_Ok tb_X8_allWaits 3 0 0 p_X8_allWaits f_X8_allWaits := by
  intro as w hp ha hw
  match as, hp with
  | [.inr (.inl m)], hp =>
  refine ⟨Nat.le_of_ble_eq_true rfl, fun Z hZ => ?_⟩
  obtain ⟨rfl, hO, hR⟩ := hp
  have hT := hO.1
  have hm := vOK_many hO.2
  have hl := sm_loopI Z 4 0 (wI w 155 1) (fun i => [some (.inr (.inl 154)), some (.inl (mAw w i)), some (.inl i)]) (fun _ => w) 0 0 hm.1 (fun i h0 h1 ih => by
    have hb := mAw_b hR i h0
    have hb1 := mAw_b hR (i + 1) (by omega)
    have hu : mAw w (i + 1) = mAw w i + mWtd w i := itI_s _ _ h0
    have hx1 : i = wI w 155 1 → mAw w i = mAw w (wI w 155 1) := fun e => by rw [e]
    rw [hu] at ih
    refine hZ (fun u => Nat.beq u 4) 14 4 _ _ _ _ _ ?_
    simp only [sm_run, sm_blk, sm_get, sm_ent, sm_ents, sm_wds, sm_wd, sm_nl, sm_pop, sm_back, sm_cases, oK, oLK, oL, oI, oA, oJ, oIs, oAs, oJs, oInc, oAdd, oSub, oMul, oDiv, oRem, oNeg, oAnd, oAndB, oOr, oShl, oI2c, oI2l, oL2i, oLand, oLor, oLshl, oLshr, oLushr, oLcmp, oDup, oDup2, oPop, oGo, oFg, oEq, oNe, oLt, oGe, oGt, oLe, oEq0, oNe0, oLt0, oGe0, oGt0, oLe0, oSw, oGi, oGr, oPi, oPz, oPr, oLen, oIl, oZl, oCl, oRl, oIst, oZst, oCst, oRst, oCopy, oNew, oNa, oNa2, oObj, oCs, oCv, oCi, oIr, oZr, oVr, Nat.beq, List.getElem?_cons_zero, List.getElem?_cons_succ, List.set_cons_zero, List.set_cons_succ, List.length_cons, List.length_nil, List.nil_append, List.cons_append, List.append_nil, List.replicate_succ, List.replicate_zero, Nat.reduceAdd, Nat.reduceSub, Nat.reduceLT, Nat.reduceLeDiff, Nat.reduceBEq, true_and, and_true, Nat.zero_add, Nat.add_zero, Nat.le_refl, Option.some.injEq, exists_eq_left', true_or, or_true, or_false, false_or, reduceCtorEq, Prod.mk.injEq, Sum.inl.injEq, and_self, false_and, and_false, not_true_eq_false, not_false_eq_true, false_implies, true_implies, sm_r, Int.add_zero, Int.zero_add, wI_wsI, wS_wsI, wR_wsI, wI_wCp, wS_wCp, wR_wCp, Nat.reduceEqDiff, reduceIte, sT_iff, sT_iffC, wIf_ne, ne_eq, Bool.false_or, Bool.true_or, Bool.or_false, Bool.or_true, Bool.or_self, tb_X8_allWaits, p_X8_waited, f_X8_waited, p_X8_allWaits, f_X8_allWaits, sS_154 hT, sR_154_0 hT, sS_155 hT, hT, hR]
    repeat' (first | exact True.intro | with_reducible assumption | with_reducible refine And.intro ?_ ?_ | intro _)
    all_goals first
      | omega
      | assumption
      | rfl
      | (split <;> omega)
      | (have k9 := ih (by omega)
         (repeat' split at k9) <;> first | exact k9 | omega)
      | (have k9 := ih2 (by omega)
         (repeat' split at k9) <;> first | exact k9 | omega)
      | exact he (by omega)
      | (congr 1; omega)
      | (rw [if_pos (by omega)] at he; exact he)
      | exact hD1 (by omega)
      | exact hD2 (by omega)
      | grind
      | skip
    )
  refine hZ (fun u => Nat.beq u 4) 14 0 _ _ _ _ _ ?_
  simp only [sm_run, sm_blk, sm_get, sm_ent, sm_ents, sm_wds, sm_wd, sm_nl, sm_pop, sm_back, sm_cases, oK, oLK, oL, oI, oA, oJ, oIs, oAs, oJs, oInc, oAdd, oSub, oMul, oDiv, oRem, oNeg, oAnd, oAndB, oOr, oShl, oI2c, oI2l, oL2i, oLand, oLor, oLshl, oLshr, oLushr, oLcmp, oDup, oDup2, oPop, oGo, oFg, oEq, oNe, oLt, oGe, oGt, oLe, oEq0, oNe0, oLt0, oGe0, oGt0, oLe0, oSw, oGi, oGr, oPi, oPz, oPr, oLen, oIl, oZl, oCl, oRl, oIst, oZst, oCst, oRst, oCopy, oNew, oNa, oNa2, oObj, oCs, oCv, oCi, oIr, oZr, oVr, Nat.beq, List.getElem?_cons_zero, List.getElem?_cons_succ, List.set_cons_zero, List.set_cons_succ, List.length_cons, List.length_nil, List.nil_append, List.cons_append, List.append_nil, List.replicate_succ, List.replicate_zero, Nat.reduceAdd, Nat.reduceSub, Nat.reduceLT, Nat.reduceLeDiff, Nat.reduceBEq, true_and, and_true, Nat.zero_add, Nat.add_zero, Nat.le_refl, Option.some.injEq, exists_eq_left', true_or, or_true, or_false, false_or, reduceCtorEq, Prod.mk.injEq, Sum.inl.injEq, and_self, false_and, and_false, not_true_eq_false, not_false_eq_true, false_implies, true_implies, sm_r, Int.add_zero, Int.zero_add, wI_wsI, wS_wsI, wR_wsI, wI_wCp, wS_wCp, wR_wCp, Nat.reduceEqDiff, reduceIte, sT_iff, sT_iffC, wIf_ne, ne_eq, Bool.false_or, Bool.true_or, Bool.or_false, Bool.or_true, Bool.or_self, tb_X8_allWaits, p_X8_waited, f_X8_waited, p_X8_allWaits, f_X8_allWaits]
  repeat' (first | exact True.intro | with_reducible assumption | with_reducible refine And.intro ?_ ?_ | intro _)
  all_goals first
    | omega
    | assumption
    | rfl
    | (split <;> omega)
    | (have k9 := ih (by omega)
       (repeat' split at k9) <;> first | exact k9 | omega)
    | (have k9 := ih2 (by omega)
       (repeat' split at k9) <;> first | exact k9 | omega)
    | exact he (by omega)
    | (congr 1; omega)
    | (rw [if_pos (by omega)] at he; exact he)
    | exact hD1 (by omega)
    | exact hD2 (by omega)
    | skip
theorem met_X8_allWaits (l : Launch) : sm_Met l yX8_allWaits cX8_allWaits 3 (some .int) 1 0 0 p_X8_allWaits f_X8_allWaits := sm_met 1 (Or.inr (Or.inl ⟨rfl, rfl⟩)) (by decide +kernel) (sn_X8_allWaits l) ok_X8_allWaits
def mGd (w : sm_W) : Int → Int := itI (fun x r => if mEndOf w x < 0 then r else (if r < mDelay w x then mDelay w x else r)) (-6)
def p_X8_greatestDelay : List sm_V → sm_W → Prop
  | [.inr (.inl m)], w => m = 154 ∧ mOK w ∧ mRec w
  | _, _ => False
def f_X8_greatestDelay : sm_F
  | [.inr (.inl m)], w => (some (.inl (mGd w (wI w 155 1))), w)
  | _, w => (none, w)
def tb_X8_greatestDelay : List (Nat × List sm_O) := [(0, [oK (-6), oIs 1, oK 0, oIs 2, oGo 5]),
  (5, [oI 2, oA 0, oGr 8 30 0, oK 1, oIl, oGe 48, oA 0, oI 2, oCv 8 30 p_X8_endOf f_X8_endOf 0 0 2, oLt0 40, oA 0, oI 2, oCv 8 30 p_X8_delayOf f_X8_delayOf 0 0 2, oI 1, oLe 40, oA 0, oI 2, oCv 8 30 p_X8_delayOf f_X8_delayOf 0 0 2, oGo 41]),
  (40, [oI 1, oGo 41]),
  (41, [oIs 1, oInc 2 1, oGo 5]),
  (48, [oI 1, oIr])]
set_option maxRecDepth 100000 in
theorem sb_X8_greatestDelay_0 (l : Launch) : sm_SndB l RX8 "greatestDelay" cX8_greatestDelay 3 1 4 0 [oK (-6), oIs 1, oK 0, oIs 2, oGo 5] := sb_cons (sd_bipush (by decide +kernel : decode cX8_greatestDelay 0 = .ok (.bipush (-6), 2)) ⟨by decide, by decide⟩ (by decide)) (sb_cons (sd_istore_n (by decide +kernel : decode cX8_greatestDelay 2 = .ok (.istore_n 1, 1)) rfl) (sb_cons (sd_iconst (by decide +kernel : decode cX8_greatestDelay 3 = .ok (.iconst 0, 1)) ⟨by decide, by decide⟩) (sb_cons (sd_istore_n (by decide +kernel : decode cX8_greatestDelay 4 = .ok (.istore_n 2, 1)) rfl) (sb_cons (sd_fall (x := 0)) sb_nil))))
set_option maxRecDepth 100000 in
theorem sb_X8_greatestDelay_5 (l : Launch) : sm_SndB l RX8 "greatestDelay" cX8_greatestDelay 3 1 4 5 [oI 2, oA 0, oGr 8 30 0, oK 1, oIl, oGe 48, oA 0, oI 2, oCv 8 30 p_X8_endOf f_X8_endOf 0 0 2, oLt0 40, oA 0, oI 2, oCv 8 30 p_X8_delayOf f_X8_delayOf 0 0 2, oI 1, oLe 40, oA 0, oI 2, oCv 8 30 p_X8_delayOf f_X8_delayOf 0 0 2, oGo 41] := sb_cons (sd_iload_n (by decide +kernel : decode cX8_greatestDelay 5 = .ok (.iload_n 2, 1)) rfl) (sb_cons (sd_aload_n (by decide +kernel : decode cX8_greatestDelay 6 = .ok (.aload_n 0, 1)) rfl) (sb_cons (sd_getr (k := 0) kl_8 (by decide) rfl wm_673 (by decide +kernel : decode cX8_greatestDelay 7 = .ok (.getfield 7, 3))) (sb_cons (sd_iconst (by decide +kernel : decode cX8_greatestDelay 10 = .ok (.iconst 1, 1)) ⟨by decide, by decide⟩) (sb_cons (sd_iaload (by decide +kernel : decode cX8_greatestDelay 11 = .ok (.iaload, 1))) (sb_cons (sd_ge (by decide +kernel : decode cX8_greatestDelay 12 = .ok (.if_icmp .ge 36, 3)) (by decide)) (sb_cons (sd_aload_n (by decide +kernel : decode cX8_greatestDelay 15 = .ok (.aload_n 0, 1)) rfl) (sb_cons (sd_iload_n (by decide +kernel : decode cX8_greatestDelay 16 = .ok (.iload_n 2, 1)) rfl) (sb_cons (sd_callv (n := 1) (met_X8_endOf l) (by decide) (by decide) wm_881 wm_879 wm_10 ⟨by decide +kernel, by decide +kernel, by decide +kernel⟩ kl_8 wm_880 wm_1134 (by decide +kernel : decode cX8_greatestDelay 17 = .ok (.invokevirtual 161, 3))) (sb_cons (sd_lt0 (by decide +kernel : decode cX8_greatestDelay 20 = .ok (.ifCond .lt 20, 3)) (by decide)) (sb_cons (sd_aload_n (by decide +kernel : decode cX8_greatestDelay 23 = .ok (.aload_n 0, 1)) rfl) (sb_cons (sd_iload_n (by decide +kernel : decode cX8_greatestDelay 24 = .ok (.iload_n 2, 1)) rfl) (sb_cons (sd_callv (n := 1) (met_X8_delayOf l) (by decide) (by decide) wm_885 wm_883 wm_10 ⟨by decide +kernel, by decide +kernel, by decide +kernel⟩ kl_8 wm_884 wm_1135 (by decide +kernel : decode cX8_greatestDelay 25 = .ok (.invokevirtual 164, 3))) (sb_cons (sd_iload_n (by decide +kernel : decode cX8_greatestDelay 28 = .ok (.iload_n 1, 1)) rfl) (sb_cons (sd_le (by decide +kernel : decode cX8_greatestDelay 29 = .ok (.if_icmp .le 11, 3)) (by decide)) (sb_cons (sd_aload_n (by decide +kernel : decode cX8_greatestDelay 32 = .ok (.aload_n 0, 1)) rfl) (sb_cons (sd_iload_n (by decide +kernel : decode cX8_greatestDelay 33 = .ok (.iload_n 2, 1)) rfl) (sb_cons (sd_callv (n := 1) (met_X8_delayOf l) (by decide) (by decide) wm_885 wm_883 wm_10 ⟨by decide +kernel, by decide +kernel, by decide +kernel⟩ kl_8 wm_884 wm_1135 (by decide +kernel : decode cX8_greatestDelay 34 = .ok (.invokevirtual 164, 3))) (sb_cons (sd_goto (x := 0) (by decide +kernel : decode cX8_greatestDelay 37 = .ok (.goto 4, 3)) (by decide)) sb_nil))))))))))))))))))
set_option maxRecDepth 100000 in
theorem sb_X8_greatestDelay_40 (l : Launch) : sm_SndB l RX8 "greatestDelay" cX8_greatestDelay 3 1 4 40 [oI 1, oGo 41] := sb_cons (sd_iload_n (by decide +kernel : decode cX8_greatestDelay 40 = .ok (.iload_n 1, 1)) rfl) (sb_cons (sd_fall (x := 0)) sb_nil)
set_option maxRecDepth 100000 in
theorem sb_X8_greatestDelay_41 (l : Launch) : sm_SndB l RX8 "greatestDelay" cX8_greatestDelay 3 1 4 41 [oIs 1, oInc 2 1, oGo 5] := sb_cons (sd_istore_n (by decide +kernel : decode cX8_greatestDelay 41 = .ok (.istore_n 1, 1)) rfl) (sb_cons (sd_iinc (by decide +kernel : decode cX8_greatestDelay 42 = .ok (.iinc 2 1, 3))) (sb_cons (sd_goto (x := 0) (by decide +kernel : decode cX8_greatestDelay 45 = .ok (.goto (-40), 3)) (by decide)) sb_nil))
set_option maxRecDepth 100000 in
theorem sb_X8_greatestDelay_48 (l : Launch) : sm_SndB l RX8 "greatestDelay" cX8_greatestDelay 3 1 4 48 [oI 1, oIr] := sb_cons (sd_iload_n (by decide +kernel : decode cX8_greatestDelay 48 = .ok (.iload_n 1, 1)) rfl) (sb_cons (sd_ireturn (x := 0) rfl (by decide +kernel : decode cX8_greatestDelay 49 = .ok (.ireturn, 1))) sb_nil)
theorem sn_X8_greatestDelay (l : Launch) : sm_SndT l RX8 "greatestDelay" cX8_greatestDelay 3 1 4 tb_X8_greatestDelay := st_cons (sb_X8_greatestDelay_0 l) (st_cons (sb_X8_greatestDelay_5 l) (st_cons (sb_X8_greatestDelay_40 l) (st_cons (sb_X8_greatestDelay_41 l) (st_cons (sb_X8_greatestDelay_48 l) (st_nil)))))
set_option maxRecDepth 100000 in
set_option maxHeartbeats 4000000 in
theorem ok_X8_greatestDelay : sm_Ok tb_X8_greatestDelay 3 0 0 p_X8_greatestDelay f_X8_greatestDelay := by
  intro as w hp ha hw
  match as, hp with
  | [.inr (.inl m)], hp =>
  refine ⟨Nat.le_of_ble_eq_true rfl, fun Z hZ => ?_⟩
  obtain ⟨rfl, hO, hR⟩ := hp
  have hT := hO.1
  have hm := vOK_many hO.2
  have hl := sm_loopI Z 5 0 (wI w 155 1) (fun i => [some (.inr (.inl 154)), some (.inl (mGd w i)), some (.inl i)]) (fun _ => w) 0 0 hm.1 (fun i h0 h1 ih => by
    have hu : mGd w (i + 1) = if mEndOf w i < 0 then mGd w i else (if mGd w i < mDelay w i then mDelay w i else mGd w i) := itI_s _ _ h0
    have hx1 : i = wI w 155 1 → mGd w i = mGd w (wI w 155 1) := fun e => by rw [e]
    rw [hu] at ih
    refine hZ (fun u => Nat.beq u 5) 14 5 _ _ _ _ _ ?_
    simp only [sm_run, sm_blk, sm_get, sm_ent, sm_ents, sm_wds, sm_wd, sm_nl, sm_pop, sm_back, sm_cases, oK, oLK, oL, oI, oA, oJ, oIs, oAs, oJs, oInc, oAdd, oSub, oMul, oDiv, oRem, oNeg, oAnd, oAndB, oOr, oShl, oI2c, oI2l, oL2i, oLand, oLor, oLshl, oLshr, oLushr, oLcmp, oDup, oDup2, oPop, oGo, oFg, oEq, oNe, oLt, oGe, oGt, oLe, oEq0, oNe0, oLt0, oGe0, oGt0, oLe0, oSw, oGi, oGr, oPi, oPz, oPr, oLen, oIl, oZl, oCl, oRl, oIst, oZst, oCst, oRst, oCopy, oNew, oNa, oNa2, oObj, oCs, oCv, oCi, oIr, oZr, oVr, Nat.beq, List.getElem?_cons_zero, List.getElem?_cons_succ, List.set_cons_zero, List.set_cons_succ, List.length_cons, List.length_nil, List.nil_append, List.cons_append, List.append_nil, List.replicate_succ, List.replicate_zero, Nat.reduceAdd, Nat.reduceSub, Nat.reduceLT, Nat.reduceLeDiff, Nat.reduceBEq, true_and, and_true, Nat.zero_add, Nat.add_zero, Nat.le_refl, Option.some.injEq, exists_eq_left', true_or, or_true, or_false, false_or, reduceCtorEq, Prod.mk.injEq, Sum.inl.injEq, and_self, false_and, and_false, not_true_eq_false, not_false_eq_true, false_implies, true_implies, sm_r, Int.add_zero, Int.zero_add, wI_wsI, wS_wsI, wR_wsI, wI_wCp, wS_wCp, wR_wCp, Nat.reduceEqDiff, reduceIte, sT_iff, sT_iffC, wIf_ne, ne_eq, Bool.false_or, Bool.true_or, Bool.or_false, Bool.or_true, Bool.or_self, tb_X8_greatestDelay, p_X8_delayOf, p_X8_endOf, f_X8_delayOf, f_X8_endOf, p_X8_greatestDelay, f_X8_greatestDelay, sS_154 hT, sR_154_0 hT, sS_155 hT, hT, hO, hR]
    repeat' (first | exact True.intro | with_reducible assumption | with_reducible refine And.intro ?_ ?_ | intro _)
    all_goals first
      | omega
      | assumption
      | rfl
      | (split <;> omega)
      | (have k9 := ih (by omega)
         (repeat' split at k9) <;> first | exact k9 | omega)
      | (have k9 := ih2 (by omega)
         (repeat' split at k9) <;> first | exact k9 | omega)
      | exact he (by omega)
      | (congr 1; omega)
      | (rw [if_pos (by omega)] at he; exact he)
      | exact hD1 (by omega)
      | exact hD2 (by omega)
      | grind
      | skip
    )
  refine hZ (fun u => Nat.beq u 5) 14 0 _ _ _ _ _ ?_
  simp only [sm_run, sm_blk, sm_get, sm_ent, sm_ents, sm_wds, sm_wd, sm_nl, sm_pop, sm_back, sm_cases, oK, oLK, oL, oI, oA, oJ, oIs, oAs, oJs, oInc, oAdd, oSub, oMul, oDiv, oRem, oNeg, oAnd, oAndB, oOr, oShl, oI2c, oI2l, oL2i, oLand, oLor, oLshl, oLshr, oLushr, oLcmp, oDup, oDup2, oPop, oGo, oFg, oEq, oNe, oLt, oGe, oGt, oLe, oEq0, oNe0, oLt0, oGe0, oGt0, oLe0, oSw, oGi, oGr, oPi, oPz, oPr, oLen, oIl, oZl, oCl, oRl, oIst, oZst, oCst, oRst, oCopy, oNew, oNa, oNa2, oObj, oCs, oCv, oCi, oIr, oZr, oVr, Nat.beq, List.getElem?_cons_zero, List.getElem?_cons_succ, List.set_cons_zero, List.set_cons_succ, List.length_cons, List.length_nil, List.nil_append, List.cons_append, List.append_nil, List.replicate_succ, List.replicate_zero, Nat.reduceAdd, Nat.reduceSub, Nat.reduceLT, Nat.reduceLeDiff, Nat.reduceBEq, true_and, and_true, Nat.zero_add, Nat.add_zero, Nat.le_refl, Option.some.injEq, exists_eq_left', true_or, or_true, or_false, false_or, reduceCtorEq, Prod.mk.injEq, Sum.inl.injEq, and_self, false_and, and_false, not_true_eq_false, not_false_eq_true, false_implies, true_implies, sm_r, Int.add_zero, Int.zero_add, wI_wsI, wS_wsI, wR_wsI, wI_wCp, wS_wCp, wR_wCp, Nat.reduceEqDiff, reduceIte, sT_iff, sT_iffC, wIf_ne, ne_eq, Bool.false_or, Bool.true_or, Bool.or_false, Bool.or_true, Bool.or_self, tb_X8_greatestDelay, p_X8_delayOf, p_X8_endOf, f_X8_delayOf, f_X8_endOf, p_X8_greatestDelay, f_X8_greatestDelay]
  repeat' (first | exact True.intro | with_reducible assumption | with_reducible refine And.intro ?_ ?_ | intro _)
  all_goals first
    | omega
    | assumption
    | rfl
    | (split <;> omega)
    | (have k9 := ih (by omega)
       (repeat' split at k9) <;> first | exact k9 | omega)
    | (have k9 := ih2 (by omega)
       (repeat' split at k9) <;> first | exact k9 | omega)
    | exact he (by omega)
    | (congr 1; omega)
    | (rw [if_pos (by omega)] at he; exact he)
    | exact hD1 (by omega)
    | exact hD2 (by omega)
    | skip
theorem met_X8_greatestDelay (l : Launch) : sm_Met l yX8_greatestDelay cX8_greatestDelay 3 (some .int) 4 0 0 p_X8_greatestDelay f_X8_greatestDelay := sm_met 1 (Or.inr (Or.inl ⟨rfl, rfl⟩)) (by decide +kernel) (sn_X8_greatestDelay l) ok_X8_greatestDelay
def mLeftB (w : sm_W) (x s t : Int) : Int := if wI w 165 (8 * x + s) < 0 then 0 else (if t < wI w 165 (8 * x + s) then 0 else 1)
def p_X8_hasLeft : List sm_V → sm_W → Prop
  | [.inr (.inl m), .inl x, .inl s, .inl t], w => m = 154 ∧ sT w ∧ 0 ≤ x ∧ x < 8 ∧ 0 ≤ s ∧ s < 8
  | _, _ => False
def f_X8_hasLeft : sm_F
  | [.inr (.inl m), .inl x, .inl s, .inl t], w => (some (.inl (mLeftB w x s t)), w)
  | _, w => (none, w)
def tb_X8_hasLeft : List (Nat × List sm_O) := [(0, [oA 0, oGr 8 30 12, oK 8, oI 1, oMul, oI 2, oAdd, oIl, oLt0 33, oA 0, oGr 8 30 12, oK 8, oI 1, oMul, oI 2, oAdd, oIl, oI 3, oGt 33, oK 1, oGo 34]),
  (33, [oK 0, oGo 34]),
  (34, [oZr])]
set_option maxRecDepth 100000 in
theorem sb_X8_hasLeft_0 (l : Launch) : sm_SndB l RX8 "hasLeft" cX8_hasLeft 4 2 0 0 [oA 0, oGr 8 30 12, oK 8, oI 1, oMul, oI 2, oAdd, oIl, oLt0 33, oA 0, oGr 8 30 12, oK 8, oI 1, oMul, oI 2, oAdd, oIl, oI 3, oGt 33, oK 1, oGo 34] := sb_cons (sd_aload_n (by decide +kernel : decode cX8_hasLeft 0 = .ok (.aload_n 0, 1)) rfl) (sb_cons (sd_getr (k := 12) kl_8 (by decide) rfl wm_685 (by decide +kernel : decode cX8_hasLeft 1 = .ok (.getfield 41, 3))) (sb_cons (sd_bipush (by decide +kernel : decode cX8_hasLeft 4 = .ok (.bipush 8, 2)) ⟨by decide, by decide⟩ (by decide)) (sb_cons (sd_iload_n (by decide +kernel : decode cX8_hasLeft 6 = .ok (.iload_n 1, 1)) rfl) (sb_cons (sd_imul (by decide +kernel : decode cX8_hasLeft 7 = .ok (.imul, 1))) (sb_cons (sd_iload_n (by decide +kernel : decode cX8_hasLeft 8 = .ok (.iload_n 2, 1)) rfl) (sb_cons (sd_iadd (by decide +kernel : decode cX8_hasLeft 9 = .ok (.iadd, 1))) (sb_cons (sd_iaload (by decide +kernel : decode cX8_hasLeft 10 = .ok (.iaload, 1))) (sb_cons (sd_lt0 (by decide +kernel : decode cX8_hasLeft 11 = .ok (.ifCond .lt 22, 3)) (by decide)) (sb_cons (sd_aload_n (by decide +kernel : decode cX8_hasLeft 14 = .ok (.aload_n 0, 1)) rfl) (sb_cons (sd_getr (k := 12) kl_8 (by decide) rfl wm_685 (by decide +kernel : decode cX8_hasLeft 15 = .ok (.getfield 41, 3))) (sb_cons (sd_bipush (by decide +kernel : decode cX8_hasLeft 18 = .ok (.bipush 8, 2)) ⟨by decide, by decide⟩ (by decide)) (sb_cons (sd_iload_n (by decide +kernel : decode cX8_hasLeft 20 = .ok (.iload_n 1, 1)) rfl) (sb_cons (sd_imul (by decide +kernel : decode cX8_hasLeft 21 = .ok (.imul, 1))) (sb_cons (sd_iload_n (by decide +kernel : decode cX8_hasLeft 22 = .ok (.iload_n 2, 1)) rfl) (sb_cons (sd_iadd (by decide +kernel : decode cX8_hasLeft 23 = .ok (.iadd, 1))) (sb_cons (sd_iaload (by decide +kernel : decode cX8_hasLeft 24 = .ok (.iaload, 1))) (sb_cons (sd_iload_n (by decide +kernel : decode cX8_hasLeft 25 = .ok (.iload_n 3, 1)) rfl) (sb_cons (sd_gt (by decide +kernel : decode cX8_hasLeft 26 = .ok (.if_icmp .gt 7, 3)) (by decide)) (sb_cons (sd_iconst (by decide +kernel : decode cX8_hasLeft 29 = .ok (.iconst 1, 1)) ⟨by decide, by decide⟩) (sb_cons (sd_goto (x := 0) (by decide +kernel : decode cX8_hasLeft 30 = .ok (.goto 4, 3)) (by decide)) sb_nil))))))))))))))))))))
set_option maxRecDepth 100000 in
theorem sb_X8_hasLeft_33 (l : Launch) : sm_SndB l RX8 "hasLeft" cX8_hasLeft 4 2 0 33 [oK 0, oGo 34] := sb_cons (sd_iconst (by decide +kernel : decode cX8_hasLeft 33 = .ok (.iconst 0, 1)) ⟨by decide, by decide⟩) (sb_cons (sd_fall (x := 0)) sb_nil)
set_option maxRecDepth 100000 in
theorem sb_X8_hasLeft_34 (l : Launch) : sm_SndB l RX8 "hasLeft" cX8_hasLeft 4 2 0 34 [oZr] := sb_cons (sd_zreturn (x := 0) rfl (by decide +kernel : decode cX8_hasLeft 34 = .ok (.ireturn, 1))) sb_nil
theorem sn_X8_hasLeft (l : Launch) : sm_SndT l RX8 "hasLeft" cX8_hasLeft 4 2 0 tb_X8_hasLeft := st_cons (sb_X8_hasLeft_0 l) (st_cons (sb_X8_hasLeft_33 l) (st_cons (sb_X8_hasLeft_34 l) (st_nil)))
set_option maxRecDepth 100000 in
set_option maxHeartbeats 4000000 in
theorem ok_X8_hasLeft : sm_Ok tb_X8_hasLeft 4 0 0 p_X8_hasLeft f_X8_hasLeft := by
  intro as w hp ha hw
  match as, hp with
  | [.inr (.inl m), .inl x, .inl s, .inl t], hp =>
  refine ⟨Nat.le_of_ble_eq_true rfl, fun Z hZ => ?_⟩
  obtain ⟨rfl, hT, h1, h2, h3, h4⟩ := hp
  refine hZ (fun _ => false) 16 0 _ _ _ _ _ ?_
  simp only [sm_run, sm_blk, sm_get, sm_ent, sm_ents, sm_wds, sm_wd, sm_nl, sm_pop, sm_back, sm_cases, oK, oLK, oL, oI, oA, oJ, oIs, oAs, oJs, oInc, oAdd, oSub, oMul, oDiv, oRem, oNeg, oAnd, oAndB, oOr, oShl, oI2c, oI2l, oL2i, oLand, oLor, oLshl, oLshr, oLushr, oLcmp, oDup, oDup2, oPop, oGo, oFg, oEq, oNe, oLt, oGe, oGt, oLe, oEq0, oNe0, oLt0, oGe0, oGt0, oLe0, oSw, oGi, oGr, oPi, oPz, oPr, oLen, oIl, oZl, oCl, oRl, oIst, oZst, oCst, oRst, oCopy, oNew, oNa, oNa2, oObj, oCs, oCv, oCi, oIr, oZr, oVr, Nat.beq, List.getElem?_cons_zero, List.getElem?_cons_succ, List.set_cons_zero, List.set_cons_succ, List.length_cons, List.length_nil, List.nil_append, List.cons_append, List.append_nil, List.replicate_succ, List.replicate_zero, Nat.reduceAdd, Nat.reduceSub, Nat.reduceLT, Nat.reduceLeDiff, Nat.reduceBEq, true_and, and_true, Nat.zero_add, Nat.add_zero, Nat.le_refl, Option.some.injEq, exists_eq_left', true_or, or_true, or_false, false_or, reduceCtorEq, Prod.mk.injEq, Sum.inl.injEq, and_self, false_and, and_false, not_true_eq_false, not_false_eq_true, false_implies, true_implies, sm_r, Int.add_zero, Int.zero_add, wI_wsI, wS_wsI, wR_wsI, wI_wCp, wS_wCp, wR_wCp, Nat.reduceEqDiff, reduceIte, sT_iff, sT_iffC, wIf_ne, ne_eq, Bool.false_or, Bool.true_or, Bool.or_false, Bool.or_true, Bool.or_self, tb_X8_hasLeft, p_X8_hasLeft, f_X8_hasLeft, sS_154 hT, sR_154_12 hT, sS_165 hT]
  repeat' (first | exact True.intro | with_reducible assumption | with_reducible refine And.intro ?_ ?_ | intro _)
  all_goals first
    | omega
    | assumption
    | rfl
    | (split <;> omega)
    | grind [mLeftB]
    | skip
theorem met_X8_hasLeft (l : Launch) : sm_Met l yX8_hasLeft cX8_hasLeft 4 (some .boolean) 0 0 0 p_X8_hasLeft f_X8_hasLeft := sm_met 2 (Or.inr (Or.inr ⟨rfl, rfl⟩)) (by decide +kernel) (sn_X8_hasLeft l) ok_X8_hasLeft
def mIsAh (w : sm_W) (k l : Int) : Int := if wI w 166 k ≠ wI w 166 l then (if wI w 166 k < wI w 166 l then 1 else 0) else (if wI w 167 k ≠ wI w 167 l then (if wI w 167 k < wI w 167 l then 1 else 0) else (if k < l then 1 else 0))
def p_X8_isAhead : List sm_V → sm_W → Prop
  | [.inr (.inl m), .inl k, .inl l], w => m = 154 ∧ sT w ∧ 0 ≤ k ∧ k < 64 ∧ 0 ≤ l ∧ l < 64
  | _, _ => False
def f_X8_isAhead : sm_F
  | [.inr (.inl m), .inl k, .inl l], w => (some (.inl (mIsAh w k l)), w)
  | _, w => (none, w)
def tb_X8_isAhead : List (Nat × List sm_O) := [(0, [oA 0, oGr 8 30 13, oI 1, oIl, oA 0, oGr 8 30 13, oI 2, oIl, oEq 36, oA 0, oGr 8 30 13, oI 1, oIl, oA 0, oGr 8 30 13, oI 2, oIl, oGe 34, oK 1, oGo 35]),
  (34, [oK 0, oGo 35]),
  (35, [oZr]),
  (36, [oA 0, oGr 8 30 14, oI 1, oIl, oA 0, oGr 8 30 14, oI 2, oIl, oEq 74, oA 0, oGr 8 30 14, oI 1, oIl, oA 0, oGr 8 30 14, oI 2, oIl, oGe 70, oK 1, oGo 84]),
  (70, [oK 0, oGo 84]),
  (74, [oI 1, oI 2, oGe 83, oK 1, oGo 84]),
  (83, [oK 0, oGo 84]),
  (84, [oZr])]
set_option maxRecDepth 100000 in
theorem sb_X8_isAhead_0 (l : Launch) : sm_SndB l RX8 "isAhead" cX8_isAhead 3 2 0 0 [oA 0, oGr 8 30 13, oI 1, oIl, oA 0, oGr 8 30 13, oI 2, oIl, oEq 36, oA 0, oGr 8 30 13, oI 1, oIl, oA 0, oGr 8 30 13, oI 2, oIl, oGe 34, oK 1, oGo 35] := sb_cons (sd_aload_n (by decide +kernel : decode cX8_isAhead 0 = .ok (.aload_n 0, 1)) rfl) (sb_cons (sd_getr (k := 13) kl_8 (by decide) rfl wm_686 (by decide +kernel : decode cX8_isAhead 1 = .ok (.getfield 44, 3))) (sb_cons (sd_iload_n (by decide +kernel : decode cX8_isAhead 4 = .ok (.iload_n 1, 1)) rfl) (sb_cons (sd_iaload (by decide +kernel : decode cX8_isAhead 5 = .ok (.iaload, 1))) (sb_cons (sd_aload_n (by decide +kernel : decode cX8_isAhead 6 = .ok (.aload_n 0, 1)) rfl) (sb_cons (sd_getr (k := 13) kl_8 (by decide) rfl wm_686 (by decide +kernel : decode cX8_isAhead 7 = .ok (.getfield 44, 3))) (sb_cons (sd_iload_n (by decide +kernel : decode cX8_isAhead 10 = .ok (.iload_n 2, 1)) rfl) (sb_cons (sd_iaload (by decide +kernel : decode cX8_isAhead 11 = .ok (.iaload, 1))) (sb_cons (sd_eq (by decide +kernel : decode cX8_isAhead 12 = .ok (.if_icmp .eq 24, 3)) (by decide)) (sb_cons (sd_aload_n (by decide +kernel : decode cX8_isAhead 15 = .ok (.aload_n 0, 1)) rfl) (sb_cons (sd_getr (k := 13) kl_8 (by decide) rfl wm_686 (by decide +kernel : decode cX8_isAhead 16 = .ok (.getfield 44, 3))) (sb_cons (sd_iload_n (by decide +kernel : decode cX8_isAhead 19 = .ok (.iload_n 1, 1)) rfl) (sb_cons (sd_iaload (by decide +kernel : decode cX8_isAhead 20 = .ok (.iaload, 1))) (sb_cons (sd_aload_n (by decide +kernel : decode cX8_isAhead 21 = .ok (.aload_n 0, 1)) rfl) (sb_cons (sd_getr (k := 13) kl_8 (by decide) rfl wm_686 (by decide +kernel : decode cX8_isAhead 22 = .ok (.getfield 44, 3))) (sb_cons (sd_iload_n (by decide +kernel : decode cX8_isAhead 25 = .ok (.iload_n 2, 1)) rfl) (sb_cons (sd_iaload (by decide +kernel : decode cX8_isAhead 26 = .ok (.iaload, 1))) (sb_cons (sd_ge (by decide +kernel : decode cX8_isAhead 27 = .ok (.if_icmp .ge 7, 3)) (by decide)) (sb_cons (sd_iconst (by decide +kernel : decode cX8_isAhead 30 = .ok (.iconst 1, 1)) ⟨by decide, by decide⟩) (sb_cons (sd_goto (x := 0) (by decide +kernel : decode cX8_isAhead 31 = .ok (.goto 4, 3)) (by decide)) sb_nil)))))))))))))))))))
set_option maxRecDepth 100000 in
theorem sb_X8_isAhead_34 (l : Launch) : sm_SndB l RX8 "isAhead" cX8_isAhead 3 2 0 34 [oK 0, oGo 35] := sb_cons (sd_iconst (by decide +kernel : decode cX8_isAhead 34 = .ok (.iconst 0, 1)) ⟨by decide, by decide⟩) (sb_cons (sd_fall (x := 0)) sb_nil)
set_option maxRecDepth 100000 in
theorem sb_X8_isAhead_35 (l : Launch) : sm_SndB l RX8 "isAhead" cX8_isAhead 3 2 0 35 [oZr] := sb_cons (sd_zreturn (x := 0) rfl (by decide +kernel : decode cX8_isAhead 35 = .ok (.ireturn, 1))) sb_nil
set_option maxRecDepth 100000 in
theorem sb_X8_isAhead_36 (l : Launch) : sm_SndB l RX8 "isAhead" cX8_isAhead 3 2 0 36 [oA 0, oGr 8 30 14, oI 1, oIl, oA 0, oGr 8 30 14, oI 2, oIl, oEq 74, oA 0, oGr 8 30 14, oI 1, oIl, oA 0, oGr 8 30 14, oI 2, oIl, oGe 70, oK 1, oGo 84] := sb_cons (sd_aload_n (by decide +kernel : decode cX8_isAhead 36 = .ok (.aload_n 0, 1)) rfl) (sb_cons (sd_getr (k := 14) kl_8 (by decide) rfl wm_687 (by decide +kernel : decode cX8_isAhead 37 = .ok (.getfield 47, 3))) (sb_cons (sd_iload_n (by decide +kernel : decode cX8_isAhead 40 = .ok (.iload_n 1, 1)) rfl) (sb_cons (sd_iaload (by decide +kernel : decode cX8_isAhead 41 = .ok (.iaload, 1))) (sb_cons (sd_aload_n (by decide +kernel : decode cX8_isAhead 42 = .ok (.aload_n 0, 1)) rfl) (sb_cons (sd_getr (k := 14) kl_8 (by decide) rfl wm_687 (by decide +kernel : decode cX8_isAhead 43 = .ok (.getfield 47, 3))) (sb_cons (sd_iload_n (by decide +kernel : decode cX8_isAhead 46 = .ok (.iload_n 2, 1)) rfl) (sb_cons (sd_iaload (by decide +kernel : decode cX8_isAhead 47 = .ok (.iaload, 1))) (sb_cons (sd_eq (by decide +kernel : decode cX8_isAhead 48 = .ok (.if_icmp .eq 26, 3)) (by decide)) (sb_cons (sd_aload_n (by decide +kernel : decode cX8_isAhead 51 = .ok (.aload_n 0, 1)) rfl) (sb_cons (sd_getr (k := 14) kl_8 (by decide) rfl wm_687 (by decide +kernel : decode cX8_isAhead 52 = .ok (.getfield 47, 3))) (sb_cons (sd_iload_n (by decide +kernel : decode cX8_isAhead 55 = .ok (.iload_n 1, 1)) rfl) (sb_cons (sd_iaload (by decide +kernel : decode cX8_isAhead 56 = .ok (.iaload, 1))) (sb_cons (sd_aload_n (by decide +kernel : decode cX8_isAhead 57 = .ok (.aload_n 0, 1)) rfl) (sb_cons (sd_getr (k := 14) kl_8 (by decide) rfl wm_687 (by decide +kernel : decode cX8_isAhead 58 = .ok (.getfield 47, 3))) (sb_cons (sd_iload_n (by decide +kernel : decode cX8_isAhead 61 = .ok (.iload_n 2, 1)) rfl) (sb_cons (sd_iaload (by decide +kernel : decode cX8_isAhead 62 = .ok (.iaload, 1))) (sb_cons (sd_ge (by decide +kernel : decode cX8_isAhead 63 = .ok (.if_icmp .ge 7, 3)) (by decide)) (sb_cons (sd_iconst (by decide +kernel : decode cX8_isAhead 66 = .ok (.iconst 1, 1)) ⟨by decide, by decide⟩) (sb_cons (sd_goto (x := 0) (by decide +kernel : decode cX8_isAhead 67 = .ok (.goto 17, 3)) (by decide)) sb_nil)))))))))))))))))))
set_option maxRecDepth 100000 in
theorem sb_X8_isAhead_70 (l : Launch) : sm_SndB l RX8 "isAhead" cX8_isAhead 3 2 0 70 [oK 0, oGo 84] := sb_cons (sd_iconst (by decide +kernel : decode cX8_isAhead 70 = .ok (.iconst 0, 1)) ⟨by decide, by decide⟩) (sb_cons (sd_goto (x := 0) (by decide +kernel : decode cX8_isAhead 71 = .ok (.goto 13, 3)) (by decide)) sb_nil)
set_option maxRecDepth 100000 in
theorem sb_X8_isAhead_74 (l : Launch) : sm_SndB l RX8 "isAhead" cX8_isAhead 3 2 0 74 [oI 1, oI 2, oGe 83, oK 1, oGo 84] := sb_cons (sd_iload_n (by decide +kernel : decode cX8_isAhead 74 = .ok (.iload_n 1, 1)) rfl) (sb_cons (sd_iload_n (by decide +kernel : decode cX8_isAhead 75 = .ok (.iload_n 2, 1)) rfl) (sb_cons (sd_ge (by decide +kernel : decode cX8_isAhead 76 = .ok (.if_icmp .ge 7, 3)) (by decide)) (sb_cons (sd_iconst (by decide +kernel : decode cX8_isAhead 79 = .ok (.iconst 1, 1)) ⟨by decide, by decide⟩) (sb_cons (sd_goto (x := 0) (by decide +kernel : decode cX8_isAhead 80 = .ok (.goto 4, 3)) (by decide)) sb_nil))))
set_option maxRecDepth 100000 in
theorem sb_X8_isAhead_83 (l : Launch) : sm_SndB l RX8 "isAhead" cX8_isAhead 3 2 0 83 [oK 0, oGo 84] := sb_cons (sd_iconst (by decide +kernel : decode cX8_isAhead 83 = .ok (.iconst 0, 1)) ⟨by decide, by decide⟩) (sb_cons (sd_fall (x := 0)) sb_nil)
set_option maxRecDepth 100000 in
theorem sb_X8_isAhead_84 (l : Launch) : sm_SndB l RX8 "isAhead" cX8_isAhead 3 2 0 84 [oZr] := sb_cons (sd_zreturn (x := 0) rfl (by decide +kernel : decode cX8_isAhead 84 = .ok (.ireturn, 1))) sb_nil
theorem sn_X8_isAhead (l : Launch) : sm_SndT l RX8 "isAhead" cX8_isAhead 3 2 0 tb_X8_isAhead := st_cons (sb_X8_isAhead_0 l) (st_cons (sb_X8_isAhead_34 l) (st_cons (sb_X8_isAhead_35 l) (st_cons (sb_X8_isAhead_36 l) (st_cons (sb_X8_isAhead_70 l) (st_cons (sb_X8_isAhead_74 l) (st_cons (sb_X8_isAhead_83 l) (st_cons (sb_X8_isAhead_84 l) (st_nil))))))))
set_option maxRecDepth 100000 in
set_option maxHeartbeats 4000000 in
theorem ok_X8_isAhead : sm_Ok tb_X8_isAhead 3 0 0 p_X8_isAhead f_X8_isAhead := by
  intro as w hp ha hw
  match as, hp with
  | [.inr (.inl m), .inl k, .inl l], hp =>
  refine ⟨Nat.le_of_ble_eq_true rfl, fun Z hZ => ?_⟩
  obtain ⟨rfl, hT, h1, h2, h3, h4⟩ := hp
  refine hZ (fun _ => false) 16 0 _ _ _ _ _ ?_
  simp only [sm_run, sm_blk, sm_get, sm_ent, sm_ents, sm_wds, sm_wd, sm_nl, sm_pop, sm_back, sm_cases, oK, oLK, oL, oI, oA, oJ, oIs, oAs, oJs, oInc, oAdd, oSub, oMul, oDiv, oRem, oNeg, oAnd, oAndB, oOr, oShl, oI2c, oI2l, oL2i, oLand, oLor, oLshl, oLshr, oLushr, oLcmp, oDup, oDup2, oPop, oGo, oFg, oEq, oNe, oLt, oGe, oGt, oLe, oEq0, oNe0, oLt0, oGe0, oGt0, oLe0, oSw, oGi, oGr, oPi, oPz, oPr, oLen, oIl, oZl, oCl, oRl, oIst, oZst, oCst, oRst, oCopy, oNew, oNa, oNa2, oObj, oCs, oCv, oCi, oIr, oZr, oVr, Nat.beq, List.getElem?_cons_zero, List.getElem?_cons_succ, List.set_cons_zero, List.set_cons_succ, List.length_cons, List.length_nil, List.nil_append, List.cons_append, List.append_nil, List.replicate_succ, List.replicate_zero, Nat.reduceAdd, Nat.reduceSub, Nat.reduceLT, Nat.reduceLeDiff, Nat.reduceBEq, true_and, and_true, Nat.zero_add, Nat.add_zero, Nat.le_refl, Option.some.injEq, exists_eq_left', true_or, or_true, or_false, false_or, reduceCtorEq, Prod.mk.injEq, Sum.inl.injEq, and_self, false_and, and_false, not_true_eq_false, not_false_eq_true, false_implies, true_implies, sm_r, Int.add_zero, Int.zero_add, wI_wsI, wS_wsI, wR_wsI, wI_wCp, wS_wCp, wR_wCp, Nat.reduceEqDiff, reduceIte, sT_iff, sT_iffC, wIf_ne, ne_eq, Bool.false_or, Bool.true_or, Bool.or_false, Bool.or_true, Bool.or_self, tb_X8_isAhead, p_X8_isAhead, f_X8_isAhead, sS_154 hT, sR_154_13 hT, sS_166 hT, sR_154_14 hT, sS_167 hT]
  repeat' (first | exact True.intro | with_reducible assumption | with_reducible refine And.intro ?_ ?_ | intro _)
  all_goals first
    | omega
    | assumption
    | rfl
    | (split <;> omega)
    | grind [mIsAh]
    | skip
theorem met_X8_isAhead (l : Launch) : sm_Met l yX8_isAhead cX8_isAhead 3 (some .boolean) 0 0 0 p_X8_isAhead f_X8_isAhead := sm_met 2 (Or.inr (Or.inr ⟨rfl, rfl⟩)) (by decide +kernel) (sn_X8_isAhead l) ok_X8_isAhead
def mAh (w : sm_W) (o : Int) : Int → Int := itI (fun k r => if wI w 166 k < 0 then r else (if mIsAh w k o = 1 then r + 1 else r)) 0
theorem mAh_b (w : sm_W) (o n : Int) (hn : 0 ≤ n) : 0 ≤ mAh w o n ∧ mAh w o n ≤ n := by
  refine itI_ind (fun i r => 0 ≤ r ∧ r ≤ i) n ⟨by decide, by decide⟩ (fun i r h0 h1 h => ?_) n hn (Int.le_refl _)
  grind
theorem mIsAh_01 (w : sm_W) (k l : Int) : mIsAh w k l = 0 ∨ mIsAh w k l = 1 := by
  unfold mIsAh
  grind
def p_X8_ahead : List sm_V → sm_W → Prop
  | [.inr (.inl m), .inl o], w => m = 154 ∧ sT w ∧ 0 ≤ o ∧ o < 64
  | _, _ => False
def f_X8_ahead : sm_F
  | [.inr (.inl m), .inl o], w => (some (.inl (mAh w o 64)), w)
  | _, w => (none, w)
def tb_X8_ahead : List (Nat × List sm_O) := [(0, [oK 0, oIs 2, oK 0, oIs 3, oGo 4]),
  (4, [oI 3, oK 64, oGe 42, oI 2, oA 0, oGr 8 30 13, oI 3, oIl, oLt0 33, oA 0, oI 3, oI 1, oCv 8 30 p_X8_isAhead f_X8_isAhead 0 0 3, oEq0 33, oK 1, oGo 34]),
  (33, [oK 0, oGo 34]),
  (34, [oAdd, oIs 2, oInc 3 1, oGo 4]),
  (42, [oI 2, oIr])]
set_option maxRecDepth 100000 in
theorem sb_X8_ahead_0 (l : Launch) : sm_SndB l RX8 "ahead" cX8_ahead 4 1 1 0 [oK 0, oIs 2, oK 0, oIs 3, oGo 4] := sb_cons (sd_iconst (by decide +kernel : decode cX8_ahead 0 = .ok (.iconst 0, 1)) ⟨by decide, by decide⟩) (sb_cons (sd_istore_n (by decide +kernel : decode cX8_ahead 1 = .ok (.istore_n 2, 1)) rfl) (sb_cons (sd_iconst (by decide +kernel : decode cX8_ahead 2 = .ok (.iconst 0, 1)) ⟨by decide, by decide⟩) (sb_cons (sd_istore_n (by decide +kernel : decode cX8_ahead 3 = .ok (.istore_n 3, 1)) rfl) (sb_cons (sd_fall (x := 0)) sb_nil))))
set_option maxRecDepth 100000 in
theorem sb_X8_ahead_4 (l : Launch) : sm_SndB l RX8 "ahead" cX8_ahead 4 1 1 4 [oI 3, oK 64, oGe 42, oI 2, oA 0, oGr 8 30 13, oI 3, oIl, oLt0 33, oA 0, oI 3, oI 1, oCv 8 30 p_X8_isAhead f_X8_isAhead 0 0 3, oEq0 33, oK 1, oGo 34] := sb_cons (sd_iload_n (by decide +kernel : decode cX8_ahead 4 = .ok (.iload_n 3, 1)) rfl) (sb_cons (sd_bipush (by decide +kernel : decode cX8_ahead 5 = .ok (.bipush 64, 2)) ⟨by decide, by decide⟩ (by decide)) (sb_cons (sd_ge (by decide +kernel : decode cX8_ahead 7 = .ok (.if_icmp .ge 35, 3)) (by decide)) (sb_cons (sd_iload_n (by decide +kernel : decode cX8_ahead 10 = .ok (.iload_n 2, 1)) rfl) (sb_cons (sd_aload_n (by decide +kernel : decode cX8_ahead 11 = .ok (.aload_n 0, 1)) rfl) (sb_cons (sd_getr (k := 13) kl_8 (by decide) rfl wm_686 (by decide +kernel : decode cX8_ahead 12 = .ok (.getfield 44, 3))) (sb_cons (sd_iload_n (by decide +kernel : decode cX8_ahead 15 = .ok (.iload_n 3, 1)) rfl) (sb_cons (sd_iaload (by decide +kernel : decode cX8_ahead 16 = .ok (.iaload, 1))) (sb_cons (sd_lt0 (by decide +kernel : decode cX8_ahead 17 = .ok (.ifCond .lt 16, 3)) (by decide)) (sb_cons (sd_aload_n (by decide +kernel : decode cX8_ahead 20 = .ok (.aload_n 0, 1)) rfl) (sb_cons (sd_iload_n (by decide +kernel : decode cX8_ahead 21 = .ok (.iload_n 3, 1)) rfl) (sb_cons (sd_iload_n (by decide +kernel : decode cX8_ahead 22 = .ok (.iload_n 1, 1)) rfl) (sb_cons (sd_callv (n := 2) (met_X8_isAhead l) (by decide) (by decide) wm_963 wm_961 wm_10 ⟨by decide +kernel, by decide +kernel, by decide +kernel⟩ kl_8 wm_962 wm_1147 (by decide +kernel : decode cX8_ahead 23 = .ok (.invokevirtual 244, 3))) (sb_cons (sd_eq0 (by decide +kernel : decode cX8_ahead 26 = .ok (.ifCond .eq 7, 3)) (by decide)) (sb_cons (sd_iconst (by decide +kernel : decode cX8_ahead 29 = .ok (.iconst 1, 1)) ⟨by decide, by decide⟩) (sb_cons (sd_goto (x := 0) (by decide +kernel : decode cX8_ahead 30 = .ok (.goto 4, 3)) (by decide)) sb_nil)))))))))))))))
set_option maxRecDepth 100000 in
theorem sb_X8_ahead_33 (l : Launch) : sm_SndB l RX8 "ahead" cX8_ahead 4 1 1 33 [oK 0, oGo 34] := sb_cons (sd_iconst (by decide +kernel : decode cX8_ahead 33 = .ok (.iconst 0, 1)) ⟨by decide, by decide⟩) (sb_cons (sd_fall (x := 0)) sb_nil)
set_option maxRecDepth 100000 in
theorem sb_X8_ahead_34 (l : Launch) : sm_SndB l RX8 "ahead" cX8_ahead 4 1 1 34 [oAdd, oIs 2, oInc 3 1, oGo 4] := sb_cons (sd_iadd (by decide +kernel : decode cX8_ahead 34 = .ok (.iadd, 1))) (sb_cons (sd_istore_n (by decide +kernel : decode cX8_ahead 35 = .ok (.istore_n 2, 1)) rfl) (sb_cons (sd_iinc (by decide +kernel : decode cX8_ahead 36 = .ok (.iinc 3 1, 3))) (sb_cons (sd_goto (x := 0) (by decide +kernel : decode cX8_ahead 39 = .ok (.goto (-35), 3)) (by decide)) sb_nil)))
set_option maxRecDepth 100000 in
theorem sb_X8_ahead_42 (l : Launch) : sm_SndB l RX8 "ahead" cX8_ahead 4 1 1 42 [oI 2, oIr] := sb_cons (sd_iload_n (by decide +kernel : decode cX8_ahead 42 = .ok (.iload_n 2, 1)) rfl) (sb_cons (sd_ireturn (x := 0) rfl (by decide +kernel : decode cX8_ahead 43 = .ok (.ireturn, 1))) sb_nil)
theorem sn_X8_ahead (l : Launch) : sm_SndT l RX8 "ahead" cX8_ahead 4 1 1 tb_X8_ahead := st_cons (sb_X8_ahead_0 l) (st_cons (sb_X8_ahead_4 l) (st_cons (sb_X8_ahead_33 l) (st_cons (sb_X8_ahead_34 l) (st_cons (sb_X8_ahead_42 l) (st_nil)))))
set_option maxRecDepth 100000 in
set_option maxHeartbeats 4000000 in
theorem ok_X8_ahead : sm_Ok tb_X8_ahead 4 0 0 p_X8_ahead f_X8_ahead := by
  intro as w hp ha hw
  match as, hp with
  | [.inr (.inl m), .inl o], hp =>
  refine ⟨Nat.le_of_ble_eq_true rfl, fun Z hZ => ?_⟩
  obtain ⟨rfl, hT, o0, o1⟩ := hp
  have hl := sm_loopI Z 4 0 64 (fun i => [some (.inr (.inl 154)), some (.inl o), some (.inl (mAh w o i)), some (.inl i)]) (fun _ => w) 0 0 (by decide) (fun i h0 h1 ih => by
    have hb := mAh_b w o i h0
    have h01 := mIsAh_01 w i o
    have hu : mAh w o (i + 1) = if wI w 166 i < 0 then mAh w o i else (if mIsAh w i o = 1 then mAh w o i + 1 else mAh w o i) := itI_s _ _ h0
    rw [hu] at ih
    refine hZ (fun u => Nat.beq u 4) 14 4 _ _ _ _ _ ?_
    simp only [sm_run, sm_blk, sm_get, sm_ent, sm_ents, sm_wds, sm_wd, sm_nl, sm_pop, sm_back, sm_cases, oK, oLK, oL, oI, oA, oJ, oIs, oAs, oJs, oInc, oAdd, oSub, oMul, oDiv, oRem, oNeg, oAnd, oAndB, oOr, oShl, oI2c, oI2l, oL2i, oLand, oLor, oLshl, oLshr, oLushr, oLcmp, oDup, oDup2, oPop, oGo, oFg, oEq, oNe, oLt, oGe, oGt, oLe, oEq0, oNe0, oLt0, oGe0, oGt0, oLe0, oSw, oGi, oGr, oPi, oPz, oPr, oLen, oIl, oZl, oCl, oRl, oIst, oZst, oCst, oRst, oCopy, oNew, oNa, oNa2, oObj, oCs, oCv, oCi, oIr, oZr, oVr, Nat.beq, List.getElem?_cons_zero, List.getElem?_cons_succ, List.set_cons_zero, List.set_cons_succ, List.length_cons, List.length_nil, List.nil_append, List.cons_append, List.append_nil, List.replicate_succ, List.replicate_zero, Nat.reduceAdd, Nat.reduceSub, Nat.reduceLT, Nat.reduceLeDiff, Nat.reduceBEq, true_and, and_true, Nat.zero_add, Nat.add_zero, Nat.le_refl, Option.some.injEq, exists_eq_left', true_or, or_true, or_false, false_or, reduceCtorEq, Prod.mk.injEq, Sum.inl.injEq, and_self, false_and, and_false, not_true_eq_false, not_false_eq_true, false_implies, true_implies, sm_r, Int.add_zero, Int.zero_add, wI_wsI, wS_wsI, wR_wsI, wI_wCp, wS_wCp, wR_wCp, Nat.reduceEqDiff, reduceIte, sT_iff, sT_iffC, wIf_ne, ne_eq, Bool.false_or, Bool.true_or, Bool.or_false, Bool.or_true, Bool.or_self, tb_X8_ahead, p_X8_isAhead, f_X8_isAhead, p_X8_ahead, f_X8_ahead, sS_154 hT, sR_154_13 hT, sS_166 hT, hT]
    repeat' (first | exact True.intro | with_reducible assumption | with_reducible refine And.intro ?_ ?_ | intro _)
    all_goals first
      | omega
      | assumption
      | rfl
      | (split <;> omega)
      | (have k9 := ih (by omega)
         (repeat' split at k9) <;> first | exact k9 | omega)
      | (have k9 := ih2 (by omega)
         (repeat' split at k9) <;> first | exact k9 | omega)
      | exact he (by omega)
      | (congr 1; omega)
      | (rw [if_pos (by omega)] at he; exact he)
      | exact hD1 (by omega)
      | exact hD2 (by omega)
      | grind
      | skip
    )
  refine hZ (fun u => Nat.beq u 4) 14 0 _ _ _ _ _ ?_
  simp only [sm_run, sm_blk, sm_get, sm_ent, sm_ents, sm_wds, sm_wd, sm_nl, sm_pop, sm_back, sm_cases, oK, oLK, oL, oI, oA, oJ, oIs, oAs, oJs, oInc, oAdd, oSub, oMul, oDiv, oRem, oNeg, oAnd, oAndB, oOr, oShl, oI2c, oI2l, oL2i, oLand, oLor, oLshl, oLshr, oLushr, oLcmp, oDup, oDup2, oPop, oGo, oFg, oEq, oNe, oLt, oGe, oGt, oLe, oEq0, oNe0, oLt0, oGe0, oGt0, oLe0, oSw, oGi, oGr, oPi, oPz, oPr, oLen, oIl, oZl, oCl, oRl, oIst, oZst, oCst, oRst, oCopy, oNew, oNa, oNa2, oObj, oCs, oCv, oCi, oIr, oZr, oVr, Nat.beq, List.getElem?_cons_zero, List.getElem?_cons_succ, List.set_cons_zero, List.set_cons_succ, List.length_cons, List.length_nil, List.nil_append, List.cons_append, List.append_nil, List.replicate_succ, List.replicate_zero, Nat.reduceAdd, Nat.reduceSub, Nat.reduceLT, Nat.reduceLeDiff, Nat.reduceBEq, true_and, and_true, Nat.zero_add, Nat.add_zero, Nat.le_refl, Option.some.injEq, exists_eq_left', true_or, or_true, or_false, false_or, reduceCtorEq, Prod.mk.injEq, Sum.inl.injEq, and_self, false_and, and_false, not_true_eq_false, not_false_eq_true, false_implies, true_implies, sm_r, Int.add_zero, Int.zero_add, wI_wsI, wS_wsI, wR_wsI, wI_wCp, wS_wCp, wR_wCp, Nat.reduceEqDiff, reduceIte, sT_iff, sT_iffC, wIf_ne, ne_eq, Bool.false_or, Bool.true_or, Bool.or_false, Bool.or_true, Bool.or_self, tb_X8_ahead, p_X8_isAhead, f_X8_isAhead, p_X8_ahead, f_X8_ahead]
  repeat' (first | exact True.intro | with_reducible assumption | with_reducible refine And.intro ?_ ?_ | intro _)
  all_goals first
    | omega
    | assumption
    | rfl
    | (split <;> omega)
    | (have k9 := ih (by omega)
       (repeat' split at k9) <;> first | exact k9 | omega)
    | (have k9 := ih2 (by omega)
       (repeat' split at k9) <;> first | exact k9 | omega)
    | exact he (by omega)
    | (congr 1; omega)
    | (rw [if_pos (by omega)] at he; exact he)
    | exact hD1 (by omega)
    | exact hD2 (by omega)
    | skip
theorem met_X8_ahead (l : Launch) : sm_Met l yX8_ahead cX8_ahead 4 (some .int) 1 0 0 p_X8_ahead f_X8_ahead := sm_met 1 (Or.inr (Or.inl ⟨rfl, rfl⟩)) (by decide +kernel) (sn_X8_ahead l) ok_X8_ahead
def mStn : Nat → sm_W → Int → Int → Int → Int
  | 0, _, _, _, s => s
  | n + 1, w, x, t, s => if s = wI w 155 (17 + 5 * x + 1) then s else (if wI w 163 (8 * x + (s + mWay (wI w 155) x)) < 0 then s else (if t < wI w 163 (8 * x + (s + mWay (wI w 155) x)) then s else mStn n w x t (s + mWay (wI w 155) x)))
theorem mStn_s (n : Nat) (w : sm_W) (x t s : Int) : mStn (n + 1) w x t s = if s = wI w 155 (17 + 5 * x + 1) then s else (if wI w 163 (8 * x + (s + mWay (wI w 155) x)) < 0 then s else (if t < wI w 163 (8 * x + (s + mWay (wI w 155) x)) then s else mStn n w x t (s + mWay (wI w 155) x))) := rfl
/-- a station on a shuttle's way -/
def onWay (v : Int → Int) (x s : Int) : Prop := (v (17 + 5 * x) < v (17 + 5 * x + 1) → v (17 + 5 * x) ≤ s ∧ s ≤ v (17 + 5 * x + 1)) ∧ (v (17 + 5 * x + 1) < v (17 + 5 * x) → v (17 + 5 * x + 1) ≤ s ∧ s ≤ v (17 + 5 * x))
theorem mStn_on {w : sm_W} (hO : mOK w) {x t : Int} (h0 : 0 ≤ x) (h1 : x < wI w 155 1) (n : Nat) : ∀ s, onWay (wI w 155) x s → onWay (wI w 155) x (mStn n w x t s) := by
  have hq := vOK_sh hO.2 h0 h1
  have hwp := mWay_pm (wI w 155) x
  induction n with
  | zero => exact fun _ h => h
  | succ n ih =>
    intro s hs
    rw [mStn_s]
    split
    · exact hs
    · split
      · exact hs
      · split
        · exact hs
        · refine ih _ ?_
          unfold onWay at *
          omega
def mStat (w : sm_W) (x t : Int) : Int := mStn 8 w x t (wI w 155 (17 + 5 * x))
theorem mStat_on {w : sm_W} (hO : mOK w) {x t : Int} (h0 : 0 ≤ x) (h1 : x < wI w 155 1) : onWay (wI w 155) x (mStat w x t) := by
  have hq := vOK_sh hO.2 h0 h1
  exact mStn_on hO h0 h1 8 _ (by unfold onWay; omega)
def p_X8_stationIn : List sm_V → sm_W → Prop
  | [.inr (.inl m), .inl x, .inl t], w => m = 154 ∧ mOK w ∧ 0 ≤ x ∧ x < wI w 155 1
  | _, _ => False
def f_X8_stationIn : sm_F
  | [.inr (.inl m), .inl x, .inl t], w => (some (.inl (mStat w x t)), w)
  | _, w => (none, w)
def tb_X8_stationIn : List (Nat × List sm_O) := [(0, [oA 0, oI 1, oK 0, oCv 8 30 p_X8_of f_X8_of 0 0 3, oIs 3, oGo 7]),
  (7, [oI 3, oA 0, oI 1, oK 1, oCv 8 30 p_X8_of f_X8_of 0 0 3, oEq 69, oA 0, oGr 8 30 10, oK 8, oI 1, oMul, oI 3, oAdd, oA 0, oI 1, oCv 8 30 p_X8_way f_X8_way 0 0 2, oAdd, oIl, oLt0 69, oA 0, oGr 8 30 10, oK 8, oI 1, oMul, oI 3, oAdd, oA 0, oI 1, oCv 8 30 p_X8_way f_X8_way 0 0 2, oAdd, oIl, oI 2, oGt 69, oI 3, oA 0, oI 1, oCv 8 30 p_X8_way f_X8_way 0 0 2, oAdd, oIs 3, oGo 7]),
  (69, [oI 3, oIr])]
set_option maxRecDepth 100000 in
theorem sb_X8_stationIn_0 (l : Launch) : sm_SndB l RX8 "stationIn" cX8_stationIn 4 1 2 0 [oA 0, oI 1, oK 0, oCv 8 30 p_X8_of f_X8_of 0 0 3, oIs 3, oGo 7] := sb_cons (sd_aload_n (by decide +kernel : decode cX8_stationIn 0 = .ok (.aload_n 0, 1)) rfl) (sb_cons (sd_iload_n (by decide +kernel : decode cX8_stationIn 1 = .ok (.iload_n 1, 1)) rfl) (sb_cons (sd_iconst (by decide +kernel : decode cX8_stationIn 2 = .ok (.iconst 0, 1)) ⟨by decide, by decide⟩) (sb_cons (sd_callv (n := 2) (met_X8_of l) (by decide) (by decide) wm_778 wm_776 wm_10 ⟨by decide +kernel, by decide +kernel, by decide +kernel⟩ kl_8 wm_777 wm_1113 (by decide +kernel : decode cX8_stationIn 3 = .ok (.invokevirtual 78, 3))) (sb_cons (sd_istore_n (by decide +kernel : decode cX8_stationIn 6 = .ok (.istore_n 3, 1)) rfl) (sb_cons (sd_fall (x := 0)) sb_nil)))))
set_option maxRecDepth 100000 in
theorem sb_X8_stationIn_7 (l : Launch) : sm_SndB l RX8 "stationIn" cX8_stationIn 4 1 2 7 [oI 3, oA 0, oI 1, oK 1, oCv 8 30 p_X8_of f_X8_of 0 0 3, oEq 69, oA 0, oGr 8 30 10, oK 8, oI 1, oMul, oI 3, oAdd, oA 0, oI 1, oCv 8 30 p_X8_way f_X8_way 0 0 2, oAdd, oIl, oLt0 69, oA 0, oGr 8 30 10, oK 8, oI 1, oMul, oI 3, oAdd, oA 0, oI 1, oCv 8 30 p_X8_way f_X8_way 0 0 2, oAdd, oIl, oI 2, oGt 69, oI 3, oA 0, oI 1, oCv 8 30 p_X8_way f_X8_way 0 0 2, oAdd, oIs 3, oGo 7] := sb_cons (sd_iload_n (by decide +kernel : decode cX8_stationIn 7 = .ok (.iload_n 3, 1)) rfl) (sb_cons (sd_aload_n (by decide +kernel : decode cX8_stationIn 8 = .ok (.aload_n 0, 1)) rfl) (sb_cons (sd_iload_n (by decide +kernel : decode cX8_stationIn 9 = .ok (.iload_n 1, 1)) rfl) (sb_cons (sd_iconst (by decide +kernel : decode cX8_stationIn 10 = .ok (.iconst 1, 1)) ⟨by decide, by decide⟩) (sb_cons (sd_callv (n := 2) (met_X8_of l) (by decide) (by decide) wm_778 wm_776 wm_10 ⟨by decide +kernel, by decide +kernel, by decide +kernel⟩ kl_8 wm_777 wm_1113 (by decide +kernel : decode cX8_stationIn 11 = .ok (.invokevirtual 78, 3))) (sb_cons (sd_eq (by decide +kernel : decode cX8_stationIn 14 = .ok (.if_icmp .eq 55, 3)) (by decide)) (sb_cons (sd_aload_n (by decide +kernel : decode cX8_stationIn 17 = .ok (.aload_n 0, 1)) rfl) (sb_cons (sd_getr (k := 10) kl_8 (by decide) rfl wm_683 (by decide +kernel : decode cX8_stationIn 18 = .ok (.getfield 35, 3))) (sb_cons (sd_bipush (by decide +kernel : decode cX8_stationIn 21 = .ok (.bipush 8, 2)) ⟨by decide, by decide⟩ (by decide)) (sb_cons (sd_iload_n (by decide +kernel : decode cX8_stationIn 23 = .ok (.iload_n 1, 1)) rfl) (sb_cons (sd_imul (by decide +kernel : decode cX8_stationIn 24 = .ok (.imul, 1))) (sb_cons (sd_iload_n (by decide +kernel : decode cX8_stationIn 25 = .ok (.iload_n 3, 1)) rfl) (sb_cons (sd_iadd (by decide +kernel : decode cX8_stationIn 26 = .ok (.iadd, 1))) (sb_cons (sd_aload_n (by decide +kernel : decode cX8_stationIn 27 = .ok (.aload_n 0, 1)) rfl) (sb_cons (sd_iload_n (by decide +kernel : decode cX8_stationIn 28 = .ok (.iload_n 1, 1)) rfl) (sb_cons (sd_callv (n := 1) (met_X8_way l) (by decide) (by decide) wm_821 wm_819 wm_10 ⟨by decide +kernel, by decide +kernel, by decide +kernel⟩ kl_8 wm_820 wm_1120 (by decide +kernel : decode cX8_stationIn 29 = .ok (.invokevirtual 95, 3))) (sb_cons (sd_iadd (by decide +kernel : decode cX8_stationIn 32 = .ok (.iadd, 1))) (sb_cons (sd_iaload (by decide +kernel : decode cX8_stationIn 33 = .ok (.iaload, 1))) (sb_cons (sd_lt0 (by decide +kernel : decode cX8_stationIn 34 = .ok (.ifCond .lt 35, 3)) (by decide)) (sb_cons (sd_aload_n (by decide +kernel : decode cX8_stationIn 37 = .ok (.aload_n 0, 1)) rfl) (sb_cons (sd_getr (k := 10) kl_8 (by decide) rfl wm_683 (by decide +kernel : decode cX8_stationIn 38 = .ok (.getfield 35, 3))) (sb_cons (sd_bipush (by decide +kernel : decode cX8_stationIn 41 = .ok (.bipush 8, 2)) ⟨by decide, by decide⟩ (by decide)) (sb_cons (sd_iload_n (by decide +kernel : decode cX8_stationIn 43 = .ok (.iload_n 1, 1)) rfl) (sb_cons (sd_imul (by decide +kernel : decode cX8_stationIn 44 = .ok (.imul, 1))) (sb_cons (sd_iload_n (by decide +kernel : decode cX8_stationIn 45 = .ok (.iload_n 3, 1)) rfl) (sb_cons (sd_iadd (by decide +kernel : decode cX8_stationIn 46 = .ok (.iadd, 1))) (sb_cons (sd_aload_n (by decide +kernel : decode cX8_stationIn 47 = .ok (.aload_n 0, 1)) rfl) (sb_cons (sd_iload_n (by decide +kernel : decode cX8_stationIn 48 = .ok (.iload_n 1, 1)) rfl) (sb_cons (sd_callv (n := 1) (met_X8_way l) (by decide) (by decide) wm_821 wm_819 wm_10 ⟨by decide +kernel, by decide +kernel, by decide +kernel⟩ kl_8 wm_820 wm_1120 (by decide +kernel : decode cX8_stationIn 49 = .ok (.invokevirtual 95, 3))) (sb_cons (sd_iadd (by decide +kernel : decode cX8_stationIn 52 = .ok (.iadd, 1))) (sb_cons (sd_iaload (by decide +kernel : decode cX8_stationIn 53 = .ok (.iaload, 1))) (sb_cons (sd_iload_n (by decide +kernel : decode cX8_stationIn 54 = .ok (.iload_n 2, 1)) rfl) (sb_cons (sd_gt (by decide +kernel : decode cX8_stationIn 55 = .ok (.if_icmp .gt 14, 3)) (by decide)) (sb_cons (sd_iload_n (by decide +kernel : decode cX8_stationIn 58 = .ok (.iload_n 3, 1)) rfl) (sb_cons (sd_aload_n (by decide +kernel : decode cX8_stationIn 59 = .ok (.aload_n 0, 1)) rfl) (sb_cons (sd_iload_n (by decide +kernel : decode cX8_stationIn 60 = .ok (.iload_n 1, 1)) rfl) (sb_cons (sd_callv (n := 1) (met_X8_way l) (by decide) (by decide) wm_821 wm_819 wm_10 ⟨by decide +kernel, by decide +kernel, by decide +kernel⟩ kl_8 wm_820 wm_1120 (by decide +kernel : decode cX8_stationIn 61 = .ok (.invokevirtual 95, 3))) (sb_cons (sd_iadd (by decide +kernel : decode cX8_stationIn 64 = .ok (.iadd, 1))) (sb_cons (sd_istore_n (by decide +kernel : decode cX8_stationIn 65 = .ok (.istore_n 3, 1)) rfl) (sb_cons (sd_goto (x := 0) (by decide +kernel : decode cX8_stationIn 66 = .ok (.goto (-59), 3)) (by decide)) sb_nil)))))))))))))))))))))))))))))))))))))))
set_option maxRecDepth 100000 in
theorem sb_X8_stationIn_69 (l : Launch) : sm_SndB l RX8 "stationIn" cX8_stationIn 4 1 2 69 [oI 3, oIr] := sb_cons (sd_iload_n (by decide +kernel : decode cX8_stationIn 69 = .ok (.iload_n 3, 1)) rfl) (sb_cons (sd_ireturn (x := 0) rfl (by decide +kernel : decode cX8_stationIn 70 = .ok (.ireturn, 1))) sb_nil)
theorem sn_X8_stationIn (l : Launch) : sm_SndT l RX8 "stationIn" cX8_stationIn 4 1 2 tb_X8_stationIn := st_cons (sb_X8_stationIn_0 l) (st_cons (sb_X8_stationIn_7 l) (st_cons (sb_X8_stationIn_69 l) (st_nil)))
set_option maxRecDepth 100000 in
set_option maxHeartbeats 4000000 in
theorem ok_X8_stationIn : sm_Ok tb_X8_stationIn 4 0 0 p_X8_stationIn f_X8_stationIn := by
  intro as w hp ha hw
  match as, hp with
  | [.inr (.inl m), .inl x, .inl t], hp =>
  refine ⟨Nat.le_of_ble_eq_true rfl, fun Z hZ => ?_⟩
  obtain ⟨rfl, hO, h0, h1⟩ := hp
  have hT := hO.1
  have hm := vOK_many hO.2
  have hq := vOK_sh hO.2 h0 h1
  have hwp := mWay_pm (wI w 155) x
  have hl := sm_loopM (S := Nat × Int) Z 7 (fun s => s.1) (fun s => onWay (wI w 155) x s.2 ∧ (wI w 155 (17 + 5 * x) < wI w 155 (17 + 5 * x + 1) → wI w 155 (17 + 5 * x + 1) < s.2 + s.1) ∧ (wI w 155 (17 + 5 * x + 1) < wI w 155 (17 + 5 * x) → s.2 - s.1 < wI w 155 (17 + 5 * x + 1)) ∧ mStn s.1 w x t s.2 = mStat w x t) (fun s => [some (.inr (.inl 154)), some (.inl x), some (.inl t), some (.inl s.2)]) (fun _ => w) 0 0 (fun s hI ih => by
    obtain ⟨n, s⟩ := s
    dsimp only at hI ih ⊢
    obtain ⟨hs, hc1, hc2, he⟩ := hI
    unfold onWay at *
    cases n with
    | zero => exfalso; omega
    | succ n =>
      rw [mStn_s] at he
      have ih := fun hx0 : ¬ s = wI w 155 (17 + 5 * x + 1) => fun he9 => ih (n, s + mWay (wI w 155) x) ⟨by omega, by omega, by omega, he9⟩ (Nat.lt_succ_self n)
      by_cases c1 : s = wI w 155 (17 + 5 * x + 1)
      · rw [if_pos c1] at he
        refine hZ (fun u => Nat.beq u 7) 14 7 _ _ _ _ _ ?_
        simp only [sm_run, sm_blk, sm_get, sm_ent, sm_ents, sm_wds, sm_wd, sm_nl, sm_pop, sm_back, sm_cases, oK, oLK, oL, oI, oA, oJ, oIs, oAs, oJs, oInc, oAdd, oSub, oMul, oDiv, oRem, oNeg, oAnd, oAndB, oOr, oShl, oI2c, oI2l, oL2i, oLand, oLor, oLshl, oLshr, oLushr, oLcmp, oDup, oDup2, oPop, oGo, oFg, oEq, oNe, oLt, oGe, oGt, oLe, oEq0, oNe0, oLt0, oGe0, oGt0, oLe0, oSw, oGi, oGr, oPi, oPz, oPr, oLen, oIl, oZl, oCl, oRl, oIst, oZst, oCst, oRst, oCopy, oNew, oNa, oNa2, oObj, oCs, oCv, oCi, oIr, oZr, oVr, Nat.beq, List.getElem?_cons_zero, List.getElem?_cons_succ, List.set_cons_zero, List.set_cons_succ, List.length_cons, List.length_nil, List.nil_append, List.cons_append, List.append_nil, List.replicate_succ, List.replicate_zero, Nat.reduceAdd, Nat.reduceSub, Nat.reduceLT, Nat.reduceLeDiff, Nat.reduceBEq, true_and, and_true, Nat.zero_add, Nat.add_zero, Nat.le_refl, Option.some.injEq, exists_eq_left', true_or, or_true, or_false, false_or, reduceCtorEq, Prod.mk.injEq, Sum.inl.injEq, and_self, false_and, and_false, not_true_eq_false, not_false_eq_true, false_implies, true_implies, sm_r, Int.add_zero, Int.zero_add, wI_wsI, wS_wsI, wR_wsI, wI_wCp, wS_wCp, wR_wCp, Nat.reduceEqDiff, reduceIte, sT_iff, sT_iffC, wIf_ne, ne_eq, Bool.false_or, Bool.true_or, Bool.or_false, Bool.or_true, Bool.or_self, tb_X8_stationIn, p_X8_of, p_X8_way, f_X8_of, f_X8_way, p_X8_stationIn, f_X8_stationIn, sS_154 hT, sR_154_10 hT, sS_163 hT, hT]
        repeat' (first | exact True.intro | with_reducible assumption | with_reducible refine And.intro ?_ ?_ | intro _)
        all_goals first
          | omega
          | assumption
          | rfl
          | (split <;> omega)
          | (have k9 := ih (by omega)
             (repeat' split at k9) <;> first | exact k9 | omega)
          | (have k9 := ih2 (by omega)
             (repeat' split at k9) <;> first | exact k9 | omega)
          | exact he (by omega)
          | (congr 1; omega)
          | (rw [if_pos (by omega)] at he; exact he)
          | exact hD1 (by omega)
          | exact hD2 (by omega)
          | grind
          | skip
      · rw [if_neg c1] at he
        by_cases c2 : wI w 163 (8 * x + (s + mWay (wI w 155) x)) < 0
        · rw [if_pos c2] at he
          clear ih
          refine hZ (fun u => Nat.beq u 7) 14 7 _ _ _ _ _ ?_
          simp only [sm_run, sm_blk, sm_get, sm_ent, sm_ents, sm_wds, sm_wd, sm_nl, sm_pop, sm_back, sm_cases, oK, oLK, oL, oI, oA, oJ, oIs, oAs, oJs, oInc, oAdd, oSub, oMul, oDiv, oRem, oNeg, oAnd, oAndB, oOr, oShl, oI2c, oI2l, oL2i, oLand, oLor, oLshl, oLshr, oLushr, oLcmp, oDup, oDup2, oPop, oGo, oFg, oEq, oNe, oLt, oGe, oGt, oLe, oEq0, oNe0, oLt0, oGe0, oGt0, oLe0, oSw, oGi, oGr, oPi, oPz, oPr, oLen, oIl, oZl, oCl, oRl, oIst, oZst, oCst, oRst, oCopy, oNew, oNa, oNa2, oObj, oCs, oCv, oCi, oIr, oZr, oVr, Nat.beq, List.getElem?_cons_zero, List.getElem?_cons_succ, List.set_cons_zero, List.set_cons_succ, List.length_cons, List.length_nil, List.nil_append, List.cons_append, List.append_nil, List.replicate_succ, List.replicate_zero, Nat.reduceAdd, Nat.reduceSub, Nat.reduceLT, Nat.reduceLeDiff, Nat.reduceBEq, true_and, and_true, Nat.zero_add, Nat.add_zero, Nat.le_refl, Option.some.injEq, exists_eq_left', true_or, or_true, or_false, false_or, reduceCtorEq, Prod.mk.injEq, Sum.inl.injEq, and_self, false_and, and_false, not_true_eq_false, not_false_eq_true, false_implies, true_implies, sm_r, Int.add_zero, Int.zero_add, wI_wsI, wS_wsI, wR_wsI, wI_wCp, wS_wCp, wR_wCp, Nat.reduceEqDiff, reduceIte, sT_iff, sT_iffC, wIf_ne, ne_eq, Bool.false_or, Bool.true_or, Bool.or_false, Bool.or_true, Bool.or_self, tb_X8_stationIn, p_X8_of, p_X8_way, f_X8_of, f_X8_way, p_X8_stationIn, f_X8_stationIn, sS_154 hT, sR_154_10 hT, sS_163 hT, hT, Int.add_assoc]
          repeat' (first | exact True.intro | with_reducible assumption | with_reducible refine And.intro ?_ ?_ | intro _)
          all_goals first
            | omega
            | assumption
            | rfl
            | (split <;> omega)
            | (have k9 := ih (by omega)
               (repeat' split at k9) <;> first | exact k9 | omega)
            | (have k9 := ih2 (by omega)
               (repeat' split at k9) <;> first | exact k9 | omega)
            | exact he (by omega)
            | (congr 1; omega)
            | (rw [if_pos (by omega)] at he; exact he)
            | exact hD1 (by omega)
            | exact hD2 (by omega)
            | grind
            | skip
        · rw [if_neg c2] at he
          by_cases c3 : t < wI w 163 (8 * x + (s + mWay (wI w 155) x))
          · rw [if_pos c3] at he
            clear ih
            refine hZ (fun u => Nat.beq u 7) 14 7 _ _ _ _ _ ?_
            simp only [sm_run, sm_blk, sm_get, sm_ent, sm_ents, sm_wds, sm_wd, sm_nl, sm_pop, sm_back, sm_cases, oK, oLK, oL, oI, oA, oJ, oIs, oAs, oJs, oInc, oAdd, oSub, oMul, oDiv, oRem, oNeg, oAnd, oAndB, oOr, oShl, oI2c, oI2l, oL2i, oLand, oLor, oLshl, oLshr, oLushr, oLcmp, oDup, oDup2, oPop, oGo, oFg, oEq, oNe, oLt, oGe, oGt, oLe, oEq0, oNe0, oLt0, oGe0, oGt0, oLe0, oSw, oGi, oGr, oPi, oPz, oPr, oLen, oIl, oZl, oCl, oRl, oIst, oZst, oCst, oRst, oCopy, oNew, oNa, oNa2, oObj, oCs, oCv, oCi, oIr, oZr, oVr, Nat.beq, List.getElem?_cons_zero, List.getElem?_cons_succ, List.set_cons_zero, List.set_cons_succ, List.length_cons, List.length_nil, List.nil_append, List.cons_append, List.append_nil, List.replicate_succ, List.replicate_zero, Nat.reduceAdd, Nat.reduceSub, Nat.reduceLT, Nat.reduceLeDiff, Nat.reduceBEq, true_and, and_true, Nat.zero_add, Nat.add_zero, Nat.le_refl, Option.some.injEq, exists_eq_left', true_or, or_true, or_false, false_or, reduceCtorEq, Prod.mk.injEq, Sum.inl.injEq, and_self, false_and, and_false, not_true_eq_false, not_false_eq_true, false_implies, true_implies, sm_r, Int.add_zero, Int.zero_add, wI_wsI, wS_wsI, wR_wsI, wI_wCp, wS_wCp, wR_wCp, Nat.reduceEqDiff, reduceIte, sT_iff, sT_iffC, wIf_ne, ne_eq, Bool.false_or, Bool.true_or, Bool.or_false, Bool.or_true, Bool.or_self, tb_X8_stationIn, p_X8_of, p_X8_way, f_X8_of, f_X8_way, p_X8_stationIn, f_X8_stationIn, sS_154 hT, sR_154_10 hT, sS_163 hT, hT, Int.add_assoc]
            repeat' (first | exact True.intro | with_reducible assumption | with_reducible refine And.intro ?_ ?_ | intro _)
            all_goals first
              | omega
              | assumption
              | rfl
              | (split <;> omega)
              | (have k9 := ih (by omega)
                 (repeat' split at k9) <;> first | exact k9 | omega)
              | (have k9 := ih2 (by omega)
                 (repeat' split at k9) <;> first | exact k9 | omega)
              | exact he (by omega)
              | (congr 1; omega)
              | (rw [if_pos (by omega)] at he; exact he)
              | exact hD1 (by omega)
              | exact hD2 (by omega)
              | grind
              | skip
          · rw [if_neg c3] at he
            have ih := ih c1 he
            refine hZ (fun u => Nat.beq u 7) 14 7 _ _ _ _ _ ?_
            simp only [sm_run, sm_blk, sm_get, sm_ent, sm_ents, sm_wds, sm_wd, sm_nl, sm_pop, sm_back, sm_cases, oK, oLK, oL, oI, oA, oJ, oIs, oAs, oJs, oInc, oAdd, oSub, oMul, oDiv, oRem, oNeg, oAnd, oAndB, oOr, oShl, oI2c, oI2l, oL2i, oLand, oLor, oLshl, oLshr, oLushr, oLcmp, oDup, oDup2, oPop, oGo, oFg, oEq, oNe, oLt, oGe, oGt, oLe, oEq0, oNe0, oLt0, oGe0, oGt0, oLe0, oSw, oGi, oGr, oPi, oPz, oPr, oLen, oIl, oZl, oCl, oRl, oIst, oZst, oCst, oRst, oCopy, oNew, oNa, oNa2, oObj, oCs, oCv, oCi, oIr, oZr, oVr, Nat.beq, List.getElem?_cons_zero, List.getElem?_cons_succ, List.set_cons_zero, List.set_cons_succ, List.length_cons, List.length_nil, List.nil_append, List.cons_append, List.append_nil, List.replicate_succ, List.replicate_zero, Nat.reduceAdd, Nat.reduceSub, Nat.reduceLT, Nat.reduceLeDiff, Nat.reduceBEq, true_and, and_true, Nat.zero_add, Nat.add_zero, Nat.le_refl, Option.some.injEq, exists_eq_left', true_or, or_true, or_false, false_or, reduceCtorEq, Prod.mk.injEq, Sum.inl.injEq, and_self, false_and, and_false, not_true_eq_false, not_false_eq_true, false_implies, true_implies, sm_r, Int.add_zero, Int.zero_add, wI_wsI, wS_wsI, wR_wsI, wI_wCp, wS_wCp, wR_wCp, Nat.reduceEqDiff, reduceIte, sT_iff, sT_iffC, wIf_ne, ne_eq, Bool.false_or, Bool.true_or, Bool.or_false, Bool.or_true, Bool.or_self, tb_X8_stationIn, p_X8_of, p_X8_way, f_X8_of, f_X8_way, p_X8_stationIn, f_X8_stationIn, sS_154 hT, sR_154_10 hT, sS_163 hT, hT, Int.add_assoc]
            repeat' (first | exact True.intro | with_reducible assumption | with_reducible refine And.intro ?_ ?_ | intro _)
            all_goals first
              | omega
              | assumption
              | rfl
              | (split <;> omega)
              | (have k9 := ih (by omega)
                 (repeat' split at k9) <;> first | exact k9 | omega)
              | (have k9 := ih2 (by omega)
                 (repeat' split at k9) <;> first | exact k9 | omega)
              | exact he (by omega)
              | (congr 1; omega)
              | (rw [if_pos (by omega)] at he; exact he)
              | exact hD1 (by omega)
              | exact hD2 (by omega)
              | grind
              | skip
    )
  have h9 := hl (8, wI w 155 (17 + 5 * x)) ⟨by unfold onWay; omega, by dsimp only; omega, by dsimp only; omega, rfl⟩
  refine hZ (fun u => Nat.beq u 7) 14 0 _ _ _ _ _ ?_
  simp only [sm_run, sm_blk, sm_get, sm_ent, sm_ents, sm_wds, sm_wd, sm_nl, sm_pop, sm_back, sm_cases, oK, oLK, oL, oI, oA, oJ, oIs, oAs, oJs, oInc, oAdd, oSub, oMul, oDiv, oRem, oNeg, oAnd, oAndB, oOr, oShl, oI2c, oI2l, oL2i, oLand, oLor, oLshl, oLshr, oLushr, oLcmp, oDup, oDup2, oPop, oGo, oFg, oEq, oNe, oLt, oGe, oGt, oLe, oEq0, oNe0, oLt0, oGe0, oGt0, oLe0, oSw, oGi, oGr, oPi, oPz, oPr, oLen, oIl, oZl, oCl, oRl, oIst, oZst, oCst, oRst, oCopy, oNew, oNa, oNa2, oObj, oCs, oCv, oCi, oIr, oZr, oVr, Nat.beq, List.getElem?_cons_zero, List.getElem?_cons_succ, List.set_cons_zero, List.set_cons_succ, List.length_cons, List.length_nil, List.nil_append, List.cons_append, List.append_nil, List.replicate_succ, List.replicate_zero, Nat.reduceAdd, Nat.reduceSub, Nat.reduceLT, Nat.reduceLeDiff, Nat.reduceBEq, true_and, and_true, Nat.zero_add, Nat.add_zero, Nat.le_refl, Option.some.injEq, exists_eq_left', true_or, or_true, or_false, false_or, reduceCtorEq, Prod.mk.injEq, Sum.inl.injEq, and_self, false_and, and_false, not_true_eq_false, not_false_eq_true, false_implies, true_implies, sm_r, Int.add_zero, Int.zero_add, wI_wsI, wS_wsI, wR_wsI, wI_wCp, wS_wCp, wR_wCp, Nat.reduceEqDiff, reduceIte, sT_iff, sT_iffC, wIf_ne, ne_eq, Bool.false_or, Bool.true_or, Bool.or_false, Bool.or_true, Bool.or_self, tb_X8_stationIn, p_X8_of, p_X8_way, f_X8_of, f_X8_way, p_X8_stationIn, f_X8_stationIn, sS_154 hT, hT]
  repeat' (first | exact True.intro | with_reducible assumption | with_reducible refine And.intro ?_ ?_ | intro _)
  all_goals first
    | omega
    | assumption
    | rfl
    | (split <;> omega)
    | (have k9 := ih (by omega)
       (repeat' split at k9) <;> first | exact k9 | omega)
    | (have k9 := ih2 (by omega)
       (repeat' split at k9) <;> first | exact k9 | omega)
    | exact he (by omega)
    | (congr 1; omega)
    | (rw [if_pos (by omega)] at he; exact he)
    | exact hD1 (by omega)
    | exact hD2 (by omega)
    | skip
theorem met_X8_stationIn (l : Launch) : sm_Met l yX8_stationIn cX8_stationIn 4 (some .int) 2 0 0 p_X8_stationIn f_X8_stationIn := sm_met 1 (Or.inr (Or.inl ⟨rfl, rfl⟩)) (by decide +kernel) (sn_X8_stationIn l) ok_X8_stationIn
def mPlace (w : sm_W) (x t : Int) : Int := if mLeftB w x (mStat w x t) t = 0 then 2 * mStat w x t else 2 * sFrom (mStat w x t) (mWay (wI w 155) x) + 1
def p_X8_placeIn : List sm_V → sm_W → Prop
  | [.inr (.inl m), .inl x, .inl t], w => m = 154 ∧ mOK w ∧ 0 ≤ x ∧ x < wI w 155 1
  | _, _ => False
def f_X8_placeIn : sm_F
  | [.inr (.inl m), .inl x, .inl t], w => (some (.inl (mPlace w x t)), w)
  | _, w => (none, w)
def tb_X8_placeIn : List (Nat × List sm_O) := [(0, [oA 0, oI 1, oI 2, oCv 8 30 p_X8_stationIn f_X8_stationIn 0 0 3, oIs 3, oA 0, oI 1, oI 3, oI 2, oCv 8 30 p_X8_hasLeft f_X8_hasLeft 0 0 4, oEq0 33, oK 2, oI 3, oA 0, oI 1, oCv 8 30 p_X8_way f_X8_way 0 0 2, oCs p_X8_stretchFrom f_X8_stretchFrom 0 0 2, oMul, oK 1, oAdd, oGo 36]),
  (33, [oK 2, oI 3, oMul, oGo 36]),
  (36, [oIr])]
set_option maxRecDepth 100000 in
theorem sb_X8_placeIn_0 (l : Launch) : sm_SndB l RX8 "placeIn" cX8_placeIn 4 1 3 0 [oA 0, oI 1, oI 2, oCv 8 30 p_X8_stationIn f_X8_stationIn 0 0 3, oIs 3, oA 0, oI 1, oI 3, oI 2, oCv 8 30 p_X8_hasLeft f_X8_hasLeft 0 0 4, oEq0 33, oK 2, oI 3, oA 0, oI 1, oCv 8 30 p_X8_way f_X8_way 0 0 2, oCs p_X8_stretchFrom f_X8_stretchFrom 0 0 2, oMul, oK 1, oAdd, oGo 36] := sb_cons (sd_aload_n (by decide +kernel : decode cX8_placeIn 0 = .ok (.aload_n 0, 1)) rfl) (sb_cons (sd_iload_n (by decide +kernel : decode cX8_placeIn 1 = .ok (.iload_n 1, 1)) rfl) (sb_cons (sd_iload_n (by decide +kernel : decode cX8_placeIn 2 = .ok (.iload_n 2, 1)) rfl) (sb_cons (sd_callv (n := 2) (met_X8_stationIn l) (by decide) (by decide) wm_932 wm_930 wm_10 ⟨by decide +kernel, by decide +kernel, by decide +kernel⟩ kl_8 wm_931 wm_1143 (by decide +kernel : decode cX8_placeIn 3 = .ok (.invokevirtual 232, 3))) (sb_cons (sd_istore_n (by decide +kernel : decode cX8_placeIn 6 = .ok (.istore_n 3, 1)) rfl) (sb_cons (sd_aload_n (by decide +kernel : decode cX8_placeIn 7 = .ok (.aload_n 0, 1)) rfl) (sb_cons (sd_iload_n (by decide +kernel : decode cX8_placeIn 8 = .ok (.iload_n 1, 1)) rfl) (sb_cons (sd_iload_n (by decide +kernel : decode cX8_placeIn 9 = .ok (.iload_n 3, 1)) rfl) (sb_cons (sd_iload_n (by decide +kernel : decode cX8_placeIn 10 = .ok (.iload_n 2, 1)) rfl) (sb_cons (sd_callv (n := 3) (met_X8_hasLeft l) (by decide) (by decide) wm_936 wm_934 wm_10 ⟨by decide +kernel, by decide +kernel, by decide +kernel⟩ kl_8 wm_935 wm_1144 (by decide +kernel : decode cX8_placeIn 11 = .ok (.invokevirtual 235, 3))) (sb_cons (sd_eq0 (by decide +kernel : decode cX8_placeIn 14 = .ok (.ifCond .eq 19, 3)) (by decide)) (sb_cons (sd_iconst (by decide +kernel : decode cX8_placeIn 17 = .ok (.iconst 2, 1)) ⟨by decide, by decide⟩) (sb_cons (sd_iload_n (by decide +kernel : decode cX8_placeIn 18 = .ok (.iload_n 3, 1)) rfl) (sb_cons (sd_aload_n (by decide +kernel : decode cX8_placeIn 19 = .ok (.aload_n 0, 1)) rfl) (sb_cons (sd_iload_n (by decide +kernel : decode cX8_placeIn 20 = .ok (.iload_n 1, 1)) rfl) (sb_cons (sd_callv (n := 1) (met_X8_way l) (by decide) (by decide) wm_821 wm_819 wm_10 ⟨by decide +kernel, by decide +kernel, by decide +kernel⟩ kl_8 wm_820 wm_1120 (by decide +kernel : decode cX8_placeIn 21 = .ok (.invokevirtual 95, 3))) (sb_cons (sd_calls (n := 2) (met_X8_stretchFrom l) (by decide) (by decide) wm_849 wm_847 wm_10 ⟨by decide +kernel, by decide +kernel, by decide +kernel⟩ wm_848 (by decide +kernel : decode cX8_placeIn 24 = .ok (.invokestatic 106, 3))) (sb_cons (sd_imul (by decide +kernel : decode cX8_placeIn 27 = .ok (.imul, 1))) (sb_cons (sd_iconst (by decide +kernel : decode cX8_placeIn 28 = .ok (.iconst 1, 1)) ⟨by decide, by decide⟩) (sb_cons (sd_iadd (by decide +kernel : decode cX8_placeIn 29 = .ok (.iadd, 1))) (sb_cons (sd_goto (x := 0) (by decide +kernel : decode cX8_placeIn 30 = .ok (.goto 6, 3)) (by decide)) sb_nil))))))))))))))))))))
set_option maxRecDepth 100000 in
theorem sb_X8_placeIn_33 (l : Launch) : sm_SndB l RX8 "placeIn" cX8_placeIn 4 1 3 33 [oK 2, oI 3, oMul, oGo 36] := sb_cons (sd_iconst (by decide +kernel : decode cX8_placeIn 33 = .ok (.iconst 2, 1)) ⟨by decide, by decide⟩) (sb_cons (sd_iload_n (by decide +kernel : decode cX8_placeIn 34 = .ok (.iload_n 3, 1)) rfl) (sb_cons (sd_imul (by decide +kernel : decode cX8_placeIn 35 = .ok (.imul, 1))) (sb_cons (sd_fall (x := 0)) sb_nil)))
set_option maxRecDepth 100000 in
theorem sb_X8_placeIn_36 (l : Launch) : sm_SndB l RX8 "placeIn" cX8_placeIn 4 1 3 36 [oIr] := sb_cons (sd_ireturn (x := 0) rfl (by decide +kernel : decode cX8_placeIn 36 = .ok (.ireturn, 1))) sb_nil
theorem sn_X8_placeIn (l : Launch) : sm_SndT l RX8 "placeIn" cX8_placeIn 4 1 3 tb_X8_placeIn := st_cons (sb_X8_placeIn_0 l) (st_cons (sb_X8_placeIn_33 l) (st_cons (sb_X8_placeIn_36 l) (st_nil)))
set_option maxRecDepth 100000 in
set_option maxHeartbeats 4000000 in
theorem ok_X8_placeIn : sm_Ok tb_X8_placeIn 4 0 0 p_X8_placeIn f_X8_placeIn := by
  intro as w hp ha hw
  match as, hp with
  | [.inr (.inl m), .inl x, .inl t], hp =>
  refine ⟨Nat.le_of_ble_eq_true rfl, fun Z hZ => ?_⟩
  obtain ⟨rfl, hO, h0, h1⟩ := hp
  have hT := hO.1
  have hm := vOK_many hO.2
  have hq := vOK_sh hO.2 h0 h1
  have hon := mStat_on (t := t) hO h0 h1
  unfold onWay at hon
  have hsf : sFrom (mStat w x t) (mWay (wI w 155) x) = mStat w x t ∨ sFrom (mStat w x t) (mWay (wI w 155) x) = mStat w x t - 1 := by
    unfold sFrom
    split
    · exact Or.inl rfl
    · exact Or.inr rfl
  refine hZ (fun _ => false) 16 0 _ _ _ _ _ ?_
  simp only [sm_run, sm_blk, sm_get, sm_ent, sm_ents, sm_wds, sm_wd, sm_nl, sm_pop, sm_back, sm_cases, oK, oLK, oL, oI, oA, oJ, oIs, oAs, oJs, oInc, oAdd, oSub, oMul, oDiv, oRem, oNeg, oAnd, oAndB, oOr, oShl, oI2c, oI2l, oL2i, oLand, oLor, oLshl, oLshr, oLushr, oLcmp, oDup, oDup2, oPop, oGo, oFg, oEq, oNe, oLt, oGe, oGt, oLe, oEq0, oNe0, oLt0, oGe0, oGt0, oLe0, oSw, oGi, oGr, oPi, oPz, oPr, oLen, oIl, oZl, oCl, oRl, oIst, oZst, oCst, oRst, oCopy, oNew, oNa, oNa2, oObj, oCs, oCv, oCi, oIr, oZr, oVr, Nat.beq, List.getElem?_cons_zero, List.getElem?_cons_succ, List.set_cons_zero, List.set_cons_succ, List.length_cons, List.length_nil, List.nil_append, List.cons_append, List.append_nil, List.replicate_succ, List.replicate_zero, Nat.reduceAdd, Nat.reduceSub, Nat.reduceLT, Nat.reduceLeDiff, Nat.reduceBEq, true_and, and_true, Nat.zero_add, Nat.add_zero, Nat.le_refl, Option.some.injEq, exists_eq_left', true_or, or_true, or_false, false_or, reduceCtorEq, Prod.mk.injEq, Sum.inl.injEq, and_self, false_and, and_false, not_true_eq_false, not_false_eq_true, false_implies, true_implies, sm_r, Int.add_zero, Int.zero_add, wI_wsI, wS_wsI, wR_wsI, wI_wCp, wS_wCp, wR_wCp, Nat.reduceEqDiff, reduceIte, sT_iff, sT_iffC, wIf_ne, ne_eq, Bool.false_or, Bool.true_or, Bool.or_false, Bool.or_true, Bool.or_self, tb_X8_placeIn, p_X8_hasLeft, p_X8_stationIn, p_X8_stretchFrom, p_X8_way, f_X8_hasLeft, f_X8_stationIn, f_X8_stretchFrom, f_X8_way, p_X8_placeIn, f_X8_placeIn, sS_154 hT, hT, hO]
  repeat' (first | exact True.intro | with_reducible assumption | with_reducible refine And.intro ?_ ?_ | intro _)
  all_goals first
    | omega
    | assumption
    | rfl
    | (split <;> omega)
    | grind [mPlace]
    | skip
theorem met_X8_placeIn (l : Launch) : sm_Met l yX8_placeIn cX8_placeIn 4 (some .int) 3 0 0 p_X8_placeIn f_X8_placeIn := sm_met 1 (Or.inr (Or.inl ⟨rfl, rfl⟩)) (by decide +kernel) (sn_X8_placeIn l) ok_X8_placeIn
def mRi1 (w : sm_W) (x t y r : Int) : Int := if mPlace w y t = 2 * sFrom (mStat w x t) (mWay (wI w 155) x) + 1 then (if mWay (wI w 155) y = mWay (wI w 155) x then 2 else 1) else r
def mRi (w : sm_W) (x t : Int) : Int → Int := itI (mRi1 w x t) 3
def mReasonIn (w : sm_W) (x t : Int) : Int := if mStat w x t = wI w 155 (17 + 5 * x + 1) then 0 else (if wI w 164 (8 * x + mStat w x t) < 0 then 0 else (if t < wI w 164 (8 * x + mStat w x t) then 0 else (if mLeftB w x (mStat w x t) t = 0 then mRi w x t (wI w 155 1) else 0)))
def p_X8_reasonIn : List sm_V → sm_W → Prop
  | [.inr (.inl m), .inl x, .inl t], w => m = 154 ∧ mOK w ∧ 0 ≤ x ∧ x < wI w 155 1
  | _, _ => False
def f_X8_reasonIn : sm_F
  | [.inr (.inl m), .inl x, .inl t], w => (some (.inl (mReasonIn w x t)), w)
  | _, w => (none, w)
def tb_X8_reasonIn : List (Nat × List sm_O) := [(0, [oA 0, oI 1, oI 2, oCv 8 30 p_X8_stationIn f_X8_stationIn 0 0 3, oIs 3, oA 0, oGr 8 30 11, oK 8, oI 1, oMul, oI 3, oAdd, oIl, oIs 4, oI 3, oA 0, oI 1, oK 1, oCv 8 30 p_X8_of f_X8_of 0 0 3, oEq 51, oI 4, oLt0 51, oI 2, oI 4, oLt 51, oA 0, oI 1, oI 3, oI 2, oCv 8 30 p_X8_hasLeft f_X8_hasLeft 0 0 4, oEq0 53, oGo 51]),
  (51, [oK 0, oIr]),
  (53, [oK 3, oIs 5, oK 0, oIs 6, oFg 4, oGo 59]),
  (59, [oI 6, oA 0, oGr 8 30 0, oK 1, oIl, oGe 120, oA 0, oI 6, oI 2, oCv 8 30 p_X8_placeIn f_X8_placeIn 0 0 3, oK 2, oI 3, oA 0, oI 1, oCv 8 30 p_X8_way f_X8_way 0 0 2, oCs p_X8_stretchFrom f_X8_stretchFrom 0 0 2, oMul, oK 1, oAdd, oNe 114, oA 0, oI 6, oCv 8 30 p_X8_way f_X8_way 0 0 2, oA 0, oI 1, oCv 8 30 p_X8_way f_X8_way 0 0 2, oNe 111, oK 2, oGo 112]),
  (111, [oK 1, oGo 112]),
  (112, [oIs 5, oGo 114]),
  (114, [oInc 6 1, oFg 4, oGo 59]),
  (120, [oI 5, oIr])]
set_option maxRecDepth 100000 in
theorem sb_X8_reasonIn_0 (l : Launch) : sm_SndB l RX8 "reasonIn" cX8_reasonIn 7 1 4 0 [oA 0, oI 1, oI 2, oCv 8 30 p_X8_stationIn f_X8_stationIn 0 0 3, oIs 3, oA 0, oGr 8 30 11, oK 8, oI 1, oMul, oI 3, oAdd, oIl, oIs 4, oI 3, oA 0, oI 1, oK 1, oCv 8 30 p_X8_of f_X8_of 0 0 3, oEq 51, oI 4, oLt0 51, oI 2, oI 4, oLt 51, oA 0, oI 1, oI 3, oI 2, oCv 8 30 p_X8_hasLeft f_X8_hasLeft 0 0 4, oEq0 53, oGo 51] := sb_cons (sd_aload_n (by decide +kernel : decode cX8_reasonIn 0 = .ok (.aload_n 0, 1)) rfl) (sb_cons (sd_iload_n (by decide +kernel : decode cX8_reasonIn 1 = .ok (.iload_n 1, 1)) rfl) (sb_cons (sd_iload_n (by decide +kernel : decode cX8_reasonIn 2 = .ok (.iload_n 2, 1)) rfl) (sb_cons (sd_callv (n := 2) (met_X8_stationIn l) (by decide) (by decide) wm_932 wm_930 wm_10 ⟨by decide +kernel, by decide +kernel, by decide +kernel⟩ kl_8 wm_931 wm_1143 (by decide +kernel : decode cX8_reasonIn 3 = .ok (.invokevirtual 232, 3))) (sb_cons (sd_istore_n (by decide +kernel : decode cX8_reasonIn 6 = .ok (.istore_n 3, 1)) rfl) (sb_cons (sd_aload_n (by decide +kernel : decode cX8_reasonIn 7 = .ok (.aload_n 0, 1)) rfl) (sb_cons (sd_getr (k := 11) kl_8 (by decide) rfl wm_684 (by decide +kernel : decode cX8_reasonIn 8 = .ok (.getfield 38, 3))) (sb_cons (sd_bipush (by decide +kernel : decode cX8_reasonIn 11 = .ok (.bipush 8, 2)) ⟨by decide, by decide⟩ (by decide)) (sb_cons (sd_iload_n (by decide +kernel : decode cX8_reasonIn 13 = .ok (.iload_n 1, 1)) rfl) (sb_cons (sd_imul (by decide +kernel : decode cX8_reasonIn 14 = .ok (.imul, 1))) (sb_cons (sd_iload_n (by decide +kernel : decode cX8_reasonIn 15 = .ok (.iload_n 3, 1)) rfl) (sb_cons (sd_iadd (by decide +kernel : decode cX8_reasonIn 16 = .ok (.iadd, 1))) (sb_cons (sd_iaload (by decide +kernel : decode cX8_reasonIn 17 = .ok (.iaload, 1))) (sb_cons (sd_istore (by decide +kernel : decode cX8_reasonIn 18 = .ok (.istore 4, 2))) (sb_cons (sd_iload_n (by decide +kernel : decode cX8_reasonIn 20 = .ok (.iload_n 3, 1)) rfl) (sb_cons (sd_aload_n (by decide +kernel : decode cX8_reasonIn 21 = .ok (.aload_n 0, 1)) rfl) (sb_cons (sd_iload_n (by decide +kernel : decode cX8_reasonIn 22 = .ok (.iload_n 1, 1)) rfl) (sb_cons (sd_iconst (by decide +kernel : decode cX8_reasonIn 23 = .ok (.iconst 1, 1)) ⟨by decide, by decide⟩) (sb_cons (sd_callv (n := 2) (met_X8_of l) (by decide) (by decide) wm_778 wm_776 wm_10 ⟨by decide +kernel, by decide +kernel, by decide +kernel⟩ kl_8 wm_777 wm_1113 (by decide +kernel : decode cX8_reasonIn 24 = .ok (.invokevirtual 78, 3))) (sb_cons (sd_eq (by decide +kernel : decode cX8_reasonIn 27 = .ok (.if_icmp .eq 24, 3)) (by decide)) (sb_cons (sd_iload (by decide +kernel : decode cX8_reasonIn 30 = .ok (.iload 4, 2))) (sb_cons (sd_lt0 (by decide +kernel : decode cX8_reasonIn 32 = .ok (.ifCond .lt 19, 3)) (by decide)) (sb_cons (sd_iload_n (by decide +kernel : decode cX8_reasonIn 35 = .ok (.iload_n 2, 1)) rfl) (sb_cons (sd_iload (by decide +kernel : decode cX8_reasonIn 36 = .ok (.iload 4, 2))) (sb_cons (sd_lt (by decide +kernel : decode cX8_reasonIn 38 = .ok (.if_icmp .lt 13, 3)) (by decide)) (sb_cons (sd_aload_n (by decide +kernel : decode cX8_reasonIn 41 = .ok (.aload_n 0, 1)) rfl) (sb_cons (sd_iload_n (by decide +kernel : decode cX8_reasonIn 42 = .ok (.iload_n 1, 1)) rfl) (sb_cons (sd_iload_n (by decide +kernel : decode cX8_reasonIn 43 = .ok (.iload_n 3, 1)) rfl) (sb_cons (sd_iload_n (by decide +kernel : decode cX8_reasonIn 44 = .ok (.iload_n 2, 1)) rfl) (sb_cons (sd_callv (n := 3) (met_X8_hasLeft l) (by decide) (by decide) wm_936 wm_934 wm_10 ⟨by decide +kernel, by decide +kernel, by decide +kernel⟩ kl_8 wm_935 wm_1144 (by decide +kernel : decode cX8_reasonIn 45 = .ok (.invokevirtual 235, 3))) (sb_cons (sd_eq0 (by decide +kernel : decode cX8_reasonIn 48 = .ok (.ifCond .eq 5, 3)) (by decide)) (sb_cons (sd_fall (x := 0)) sb_nil)))))))))))))))))))))))))))))))
set_option maxRecDepth 100000 in
theorem sb_X8_reasonIn_51 (l : Launch) : sm_SndB l RX8 "reasonIn" cX8_reasonIn 7 1 4 51 [oK 0, oIr] := sb_cons (sd_iconst (by decide +kernel : decode cX8_reasonIn 51 = .ok (.iconst 0, 1)) ⟨by decide, by decide⟩) (sb_cons (sd_ireturn (x := 0) rfl (by decide +kernel : decode cX8_reasonIn 52 = .ok (.ireturn, 1))) sb_nil)
set_option maxRecDepth 100000 in
theorem sb_X8_reasonIn_53 (l : Launch) : sm_SndB l RX8 "reasonIn" cX8_reasonIn 7 1 4 53 [oK 3, oIs 5, oK 0, oIs 6, oFg 4, oGo 59] := sb_cons (sd_iconst (by decide +kernel : decode cX8_reasonIn 53 = .ok (.iconst 3, 1)) ⟨by decide, by decide⟩) (sb_cons (sd_istore (by decide +kernel : decode cX8_reasonIn 54 = .ok (.istore 5, 2))) (sb_cons (sd_iconst (by decide +kernel : decode cX8_reasonIn 56 = .ok (.iconst 0, 1)) ⟨by decide, by decide⟩) (sb_cons (sd_istore (by decide +kernel : decode cX8_reasonIn 57 = .ok (.istore 6, 2))) (sb_cons (sd_fg) (sb_cons (sd_fall (x := 0)) sb_nil)))))
set_option maxRecDepth 100000 in
theorem sb_X8_reasonIn_59 (l : Launch) : sm_SndB l RX8 "reasonIn" cX8_reasonIn 7 1 4 59 [oI 6, oA 0, oGr 8 30 0, oK 1, oIl, oGe 120, oA 0, oI 6, oI 2, oCv 8 30 p_X8_placeIn f_X8_placeIn 0 0 3, oK 2, oI 3, oA 0, oI 1, oCv 8 30 p_X8_way f_X8_way 0 0 2, oCs p_X8_stretchFrom f_X8_stretchFrom 0 0 2, oMul, oK 1, oAdd, oNe 114, oA 0, oI 6, oCv 8 30 p_X8_way f_X8_way 0 0 2, oA 0, oI 1, oCv 8 30 p_X8_way f_X8_way 0 0 2, oNe 111, oK 2, oGo 112] := sb_cons (sd_iload (by decide +kernel : decode cX8_reasonIn 59 = .ok (.iload 6, 2))) (sb_cons (sd_aload_n (by decide +kernel : decode cX8_reasonIn 61 = .ok (.aload_n 0, 1)) rfl) (sb_cons (sd_getr (k := 0) kl_8 (by decide) rfl wm_673 (by decide +kernel : decode cX8_reasonIn 62 = .ok (.getfield 7, 3))) (sb_cons (sd_iconst (by decide +kernel : decode cX8_reasonIn 65 = .ok (.iconst 1, 1)) ⟨by decide, by decide⟩) (sb_cons (sd_iaload (by decide +kernel : decode cX8_reasonIn 66 = .ok (.iaload, 1))) (sb_cons (sd_ge (by decide +kernel : decode cX8_reasonIn 67 = .ok (.if_icmp .ge 53, 3)) (by decide)) (sb_cons (sd_aload_n (by decide +kernel : decode cX8_reasonIn 70 = .ok (.aload_n 0, 1)) rfl) (sb_cons (sd_iload (by decide +kernel : decode cX8_reasonIn 71 = .ok (.iload 6, 2))) (sb_cons (sd_iload_n (by decide +kernel : decode cX8_reasonIn 73 = .ok (.iload_n 2, 1)) rfl) (sb_cons (sd_callv (n := 2) (met_X8_placeIn l) (by decide) (by decide) wm_928 wm_926 wm_10 ⟨by decide +kernel, by decide +kernel, by decide +kernel⟩ kl_8 wm_927 wm_1142 (by decide +kernel : decode cX8_reasonIn 74 = .ok (.invokevirtual 238, 3))) (sb_cons (sd_iconst (by decide +kernel : decode cX8_reasonIn 77 = .ok (.iconst 2, 1)) ⟨by decide, by decide⟩) (sb_cons (sd_iload_n (by decide +kernel : decode cX8_reasonIn 78 = .ok (.iload_n 3, 1)) rfl) (sb_cons (sd_aload_n (by decide +kernel : decode cX8_reasonIn 79 = .ok (.aload_n 0, 1)) rfl) (sb_cons (sd_iload_n (by decide +kernel : decode cX8_reasonIn 80 = .ok (.iload_n 1, 1)) rfl) (sb_cons (sd_callv (n := 1) (met_X8_way l) (by decide) (by decide) wm_821 wm_819 wm_10 ⟨by decide +kernel, by decide +kernel, by decide +kernel⟩ kl_8 wm_820 wm_1120 (by decide +kernel : decode cX8_reasonIn 81 = .ok (.invokevirtual 95, 3))) (sb_cons (sd_calls (n := 2) (met_X8_stretchFrom l) (by decide) (by decide) wm_849 wm_847 wm_10 ⟨by decide +kernel, by decide +kernel, by decide +kernel⟩ wm_848 (by decide +kernel : decode cX8_reasonIn 84 = .ok (.invokestatic 106, 3))) (sb_cons (sd_imul (by decide +kernel : decode cX8_reasonIn 87 = .ok (.imul, 1))) (sb_cons (sd_iconst (by decide +kernel : decode cX8_reasonIn 88 = .ok (.iconst 1, 1)) ⟨by decide, by decide⟩) (sb_cons (sd_iadd (by decide +kernel : decode cX8_reasonIn 89 = .ok (.iadd, 1))) (sb_cons (sd_ne (by decide +kernel : decode cX8_reasonIn 90 = .ok (.if_icmp .ne 24, 3)) (by decide)) (sb_cons (sd_aload_n (by decide +kernel : decode cX8_reasonIn 93 = .ok (.aload_n 0, 1)) rfl) (sb_cons (sd_iload (by decide +kernel : decode cX8_reasonIn 94 = .ok (.iload 6, 2))) (sb_cons (sd_callv (n := 1) (met_X8_way l) (by decide) (by decide) wm_821 wm_819 wm_10 ⟨by decide +kernel, by decide +kernel, by decide +kernel⟩ kl_8 wm_820 wm_1120 (by decide +kernel : decode cX8_reasonIn 96 = .ok (.invokevirtual 95, 3))) (sb_cons (sd_aload_n (by decide +kernel : decode cX8_reasonIn 99 = .ok (.aload_n 0, 1)) rfl) (sb_cons (sd_iload_n (by decide +kernel : decode cX8_reasonIn 100 = .ok (.iload_n 1, 1)) rfl) (sb_cons (sd_callv (n := 1) (met_X8_way l) (by decide) (by decide) wm_821 wm_819 wm_10 ⟨by decide +kernel, by decide +kernel, by decide +kernel⟩ kl_8 wm_820 wm_1120 (by decide +kernel : decode cX8_reasonIn 101 = .ok (.invokevirtual 95, 3))) (sb_cons (sd_ne (by decide +kernel : decode cX8_reasonIn 104 = .ok (.if_icmp .ne 7, 3)) (by decide)) (sb_cons (sd_iconst (by decide +kernel : decode cX8_reasonIn 107 = .ok (.iconst 2, 1)) ⟨by decide, by decide⟩) (sb_cons (sd_goto (x := 0) (by decide +kernel : decode cX8_reasonIn 108 = .ok (.goto 4, 3)) (by decide)) sb_nil))))))))))))))))))))))))))))
set_option maxRecDepth 100000 in
theorem sb_X8_reasonIn_111 (l : Launch) : sm_SndB l RX8 "reasonIn" cX8_reasonIn 7 1 4 111 [oK 1, oGo 112] := sb_cons (sd_iconst (by decide +kernel : decode cX8_reasonIn 111 = .ok (.iconst 1, 1)) ⟨by decide, by decide⟩) (sb_cons (sd_fall (x := 0)) sb_nil)
set_option maxRecDepth 100000 in
theorem sb_X8_reasonIn_112 (l : Launch) : sm_SndB l RX8 "reasonIn" cX8_reasonIn 7 1 4 112 [oIs 5, oGo 114] := sb_cons (sd_istore (by decide +kernel : decode cX8_reasonIn 112 = .ok (.istore 5, 2))) (sb_cons (sd_fall (x := 0)) sb_nil)
set_option maxRecDepth 100000 in
theorem sb_X8_reasonIn_114 (l : Launch) : sm_SndB l RX8 "reasonIn" cX8_reasonIn 7 1 4 114 [oInc 6 1, oFg 4, oGo 59] := sb_cons (sd_iinc (by decide +kernel : decode cX8_reasonIn 114 = .ok (.iinc 6 1, 3))) (sb_cons (sd_fg) (sb_cons (sd_goto (x := 0) (by decide +kernel : decode cX8_reasonIn 117 = .ok (.goto (-58), 3)) (by decide)) sb_nil))
set_option maxRecDepth 100000 in
theorem sb_X8_reasonIn_120 (l : Launch) : sm_SndB l RX8 "reasonIn" cX8_reasonIn 7 1 4 120 [oI 5, oIr] := sb_cons (sd_iload (by decide +kernel : decode cX8_reasonIn 120 = .ok (.iload 5, 2))) (sb_cons (sd_ireturn (x := 0) rfl (by decide +kernel : decode cX8_reasonIn 122 = .ok (.ireturn, 1))) sb_nil)
theorem sn_X8_reasonIn (l : Launch) : sm_SndT l RX8 "reasonIn" cX8_reasonIn 7 1 4 tb_X8_reasonIn := st_cons (sb_X8_reasonIn_0 l) (st_cons (sb_X8_reasonIn_51 l) (st_cons (sb_X8_reasonIn_53 l) (st_cons (sb_X8_reasonIn_59 l) (st_cons (sb_X8_reasonIn_111 l) (st_cons (sb_X8_reasonIn_112 l) (st_cons (sb_X8_reasonIn_114 l) (st_cons (sb_X8_reasonIn_120 l) (st_nil))))))))
set_option maxRecDepth 100000 in
set_option maxHeartbeats 4000000 in
theorem ok_X8_reasonIn : sm_Ok tb_X8_reasonIn 7 0 0 p_X8_reasonIn f_X8_reasonIn := by
  intro as w hp ha hw
  match as, hp with
  | [.inr (.inl m), .inl x, .inl t], hp =>
  refine ⟨Nat.le_of_ble_eq_true rfl, fun Z hZ => ?_⟩
  obtain ⟨rfl, hO, h0, h1⟩ := hp
  have hT := hO.1
  have hm := vOK_many hO.2
  have hq := vOK_sh hO.2 h0 h1
  have hon := mStat_on (t := t) hO h0 h1
  unfold onWay at hon
  have hsf : sFrom (mStat w x t) (mWay (wI w 155) x) = mStat w x t ∨ sFrom (mStat w x t) (mWay (wI w 155) x) = mStat w x t - 1 := by
    unfold sFrom
    split
    · exact Or.inl rfl
    · exact Or.inr rfl
  by_cases c1 : mStat w x t = wI w 155 (17 + 5 * x + 1)
  · have hr : mReasonIn w x t = 0 := by unfold mReasonIn; rw [if_pos c1]
    refine hZ (fun u => Nat.beq u 59) 14 0 _ _ _ _ _ ?_
    simp only [sm_run, sm_blk, sm_get, sm_ent, sm_ents, sm_wds, sm_wd, sm_nl, sm_pop, sm_back, sm_cases, oK, oLK, oL, oI, oA, oJ, oIs, oAs, oJs, oInc, oAdd, oSub, oMul, oDiv, oRem, oNeg, oAnd, oAndB, oOr, oShl, oI2c, oI2l, oL2i, oLand, oLor, oLshl, oLshr, oLushr, oLcmp, oDup, oDup2, oPop, oGo, oFg, oEq, oNe, oLt, oGe, oGt, oLe, oEq0, oNe0, oLt0, oGe0, oGt0, oLe0, oSw, oGi, oGr, oPi, oPz, oPr, oLen, oIl, oZl, oCl, oRl, oIst, oZst, oCst, oRst, oCopy, oNew, oNa, oNa2, oObj, oCs, oCv, oCi, oIr, oZr, oVr, Nat.beq, List.getElem?_cons_zero, List.getElem?_cons_succ, List.set_cons_zero, List.set_cons_succ, List.length_cons, List.length_nil, List.nil_append, List.cons_append, List.append_nil, List.replicate_succ, List.replicate_zero, Nat.reduceAdd, Nat.reduceSub, Nat.reduceLT, Nat.reduceLeDiff, Nat.reduceBEq, true_and, and_true, Nat.zero_add, Nat.add_zero, Nat.le_refl, Option.some.injEq, exists_eq_left', true_or, or_true, or_false, false_or, reduceCtorEq, Prod.mk.injEq, Sum.inl.injEq, and_self, false_and, and_false, not_true_eq_false, not_false_eq_true, false_implies, true_implies, sm_r, Int.add_zero, Int.zero_add, wI_wsI, wS_wsI, wR_wsI, wI_wCp, wS_wCp, wR_wCp, Nat.reduceEqDiff, reduceIte, sT_iff, sT_iffC, wIf_ne, ne_eq, Bool.false_or, Bool.true_or, Bool.or_false, Bool.or_true, Bool.or_self, tb_X8_reasonIn, p_X8_hasLeft, p_X8_of, p_X8_placeIn, p_X8_stationIn, p_X8_stretchFrom, p_X8_way, f_X8_hasLeft, f_X8_of, f_X8_placeIn, f_X8_stationIn, f_X8_stretchFrom, f_X8_way, p_X8_reasonIn, f_X8_reasonIn, sS_154 hT, sR_154_11 hT, sS_164 hT, hT, hO, hr]
    repeat' (first | exact True.intro | with_reducible assumption | with_reducible refine And.intro ?_ ?_ | intro _)
    all_goals first
      | omega
      | assumption
      | rfl
      | (split <;> omega)
      | (have k9 := ih (by omega)
         (repeat' split at k9) <;> first | exact k9 | omega)
      | (have k9 := ih2 (by omega)
         (repeat' split at k9) <;> first | exact k9 | omega)
      | exact he (by omega)
      | (congr 1; omega)
      | (rw [if_pos (by omega)] at he; exact he)
      | exact hD1 (by omega)
      | exact hD2 (by omega)
      | skip
  by_cases c2 : wI w 164 (8 * x + mStat w x t) < 0
  · have hr : mReasonIn w x t = 0 := by unfold mReasonIn; rw [if_neg c1, if_pos c2]
    refine hZ (fun u => Nat.beq u 59) 14 0 _ _ _ _ _ ?_
    simp only [sm_run, sm_blk, sm_get, sm_ent, sm_ents, sm_wds, sm_wd, sm_nl, sm_pop, sm_back, sm_cases, oK, oLK, oL, oI, oA, oJ, oIs, oAs, oJs, oInc, oAdd, oSub, oMul, oDiv, oRem, oNeg, oAnd, oAndB, oOr, oShl, oI2c, oI2l, oL2i, oLand, oLor, oLshl, oLshr, oLushr, oLcmp, oDup, oDup2, oPop, oGo, oFg, oEq, oNe, oLt, oGe, oGt, oLe, oEq0, oNe0, oLt0, oGe0, oGt0, oLe0, oSw, oGi, oGr, oPi, oPz, oPr, oLen, oIl, oZl, oCl, oRl, oIst, oZst, oCst, oRst, oCopy, oNew, oNa, oNa2, oObj, oCs, oCv, oCi, oIr, oZr, oVr, Nat.beq, List.getElem?_cons_zero, List.getElem?_cons_succ, List.set_cons_zero, List.set_cons_succ, List.length_cons, List.length_nil, List.nil_append, List.cons_append, List.append_nil, List.replicate_succ, List.replicate_zero, Nat.reduceAdd, Nat.reduceSub, Nat.reduceLT, Nat.reduceLeDiff, Nat.reduceBEq, true_and, and_true, Nat.zero_add, Nat.add_zero, Nat.le_refl, Option.some.injEq, exists_eq_left', true_or, or_true, or_false, false_or, reduceCtorEq, Prod.mk.injEq, Sum.inl.injEq, and_self, false_and, and_false, not_true_eq_false, not_false_eq_true, false_implies, true_implies, sm_r, Int.add_zero, Int.zero_add, wI_wsI, wS_wsI, wR_wsI, wI_wCp, wS_wCp, wR_wCp, Nat.reduceEqDiff, reduceIte, sT_iff, sT_iffC, wIf_ne, ne_eq, Bool.false_or, Bool.true_or, Bool.or_false, Bool.or_true, Bool.or_self, tb_X8_reasonIn, p_X8_hasLeft, p_X8_of, p_X8_placeIn, p_X8_stationIn, p_X8_stretchFrom, p_X8_way, f_X8_hasLeft, f_X8_of, f_X8_placeIn, f_X8_stationIn, f_X8_stretchFrom, f_X8_way, p_X8_reasonIn, f_X8_reasonIn, sS_154 hT, sR_154_11 hT, sS_164 hT, hT, hO, hr]
    repeat' (first | exact True.intro | with_reducible assumption | with_reducible refine And.intro ?_ ?_ | intro _)
    all_goals first
      | omega
      | assumption
      | rfl
      | (split <;> omega)
      | (have k9 := ih (by omega)
         (repeat' split at k9) <;> first | exact k9 | omega)
      | (have k9 := ih2 (by omega)
         (repeat' split at k9) <;> first | exact k9 | omega)
      | exact he (by omega)
      | (congr 1; omega)
      | (rw [if_pos (by omega)] at he; exact he)
      | exact hD1 (by omega)
      | exact hD2 (by omega)
      | skip
  by_cases c3 : t < wI w 164 (8 * x + mStat w x t)
  · have hr : mReasonIn w x t = 0 := by unfold mReasonIn; rw [if_neg c1, if_neg c2, if_pos c3]
    refine hZ (fun u => Nat.beq u 59) 14 0 _ _ _ _ _ ?_
    simp only [sm_run, sm_blk, sm_get, sm_ent, sm_ents, sm_wds, sm_wd, sm_nl, sm_pop, sm_back, sm_cases, oK, oLK, oL, oI, oA, oJ, oIs, oAs, oJs, oInc, oAdd, oSub, oMul, oDiv, oRem, oNeg, oAnd, oAndB, oOr, oShl, oI2c, oI2l, oL2i, oLand, oLor, oLshl, oLshr, oLushr, oLcmp, oDup, oDup2, oPop, oGo, oFg, oEq, oNe, oLt, oGe, oGt, oLe, oEq0, oNe0, oLt0, oGe0, oGt0, oLe0, oSw, oGi, oGr, oPi, oPz, oPr, oLen, oIl, oZl, oCl, oRl, oIst, oZst, oCst, oRst, oCopy, oNew, oNa, oNa2, oObj, oCs, oCv, oCi, oIr, oZr, oVr, Nat.beq, List.getElem?_cons_zero, List.getElem?_cons_succ, List.set_cons_zero, List.set_cons_succ, List.length_cons, List.length_nil, List.nil_append, List.cons_append, List.append_nil, List.replicate_succ, List.replicate_zero, Nat.reduceAdd, Nat.reduceSub, Nat.reduceLT, Nat.reduceLeDiff, Nat.reduceBEq, true_and, and_true, Nat.zero_add, Nat.add_zero, Nat.le_refl, Option.some.injEq, exists_eq_left', true_or, or_true, or_false, false_or, reduceCtorEq, Prod.mk.injEq, Sum.inl.injEq, and_self, false_and, and_false, not_true_eq_false, not_false_eq_true, false_implies, true_implies, sm_r, Int.add_zero, Int.zero_add, wI_wsI, wS_wsI, wR_wsI, wI_wCp, wS_wCp, wR_wCp, Nat.reduceEqDiff, reduceIte, sT_iff, sT_iffC, wIf_ne, ne_eq, Bool.false_or, Bool.true_or, Bool.or_false, Bool.or_true, Bool.or_self, tb_X8_reasonIn, p_X8_hasLeft, p_X8_of, p_X8_placeIn, p_X8_stationIn, p_X8_stretchFrom, p_X8_way, f_X8_hasLeft, f_X8_of, f_X8_placeIn, f_X8_stationIn, f_X8_stretchFrom, f_X8_way, p_X8_reasonIn, f_X8_reasonIn, sS_154 hT, sR_154_11 hT, sS_164 hT, hT, hO, hr]
    repeat' (first | exact True.intro | with_reducible assumption | with_reducible refine And.intro ?_ ?_ | intro _)
    all_goals first
      | omega
      | assumption
      | rfl
      | (split <;> omega)
      | (have k9 := ih (by omega)
         (repeat' split at k9) <;> first | exact k9 | omega)
      | (have k9 := ih2 (by omega)
         (repeat' split at k9) <;> first | exact k9 | omega)
      | exact he (by omega)
      | (congr 1; omega)
      | (rw [if_pos (by omega)] at he; exact he)
      | exact hD1 (by omega)
      | exact hD2 (by omega)
      | skip
  by_cases c4 : mLeftB w x (mStat w x t) t = 0
  · have hr : mReasonIn w x t = mRi w x t (wI w 155 1) := by unfold mReasonIn; rw [if_neg c1, if_neg c2, if_neg c3, if_pos c4]
    have hl := sm_loopI Z 59 0 (wI w 155 1) (fun i => [some (.inr (.inl 154)), some (.inl x), some (.inl t), some (.inl (mStat w x t)), none, some (.inl (mRi w x t i)), some (.inl i)]) (fun _ => w) 0 0 hm.1 (fun i g0 g1 ih => by
      have hu : mRi w x t (i + 1) = mRi1 w x t i (mRi w x t i) := itI_s _ _ g0
      have hx1 : i = wI w 155 1 → mRi w x t i = mReasonIn w x t := fun e => by rw [hr, e]
      rw [hu] at ih
      unfold mRi1 at ih
      refine hZ (fun u => Nat.beq u 59) 14 59 _ _ _ _ _ ?_
      simp only [sm_run, sm_blk, sm_get, sm_ent, sm_ents, sm_wds, sm_wd, sm_nl, sm_pop, sm_back, sm_cases, oK, oLK, oL, oI, oA, oJ, oIs, oAs, oJs, oInc, oAdd, oSub, oMul, oDiv, oRem, oNeg, oAnd, oAndB, oOr, oShl, oI2c, oI2l, oL2i, oLand, oLor, oLshl, oLshr, oLushr, oLcmp, oDup, oDup2, oPop, oGo, oFg, oEq, oNe, oLt, oGe, oGt, oLe, oEq0, oNe0, oLt0, oGe0, oGt0, oLe0, oSw, oGi, oGr, oPi, oPz, oPr, oLen, oIl, oZl, oCl, oRl, oIst, oZst, oCst, oRst, oCopy, oNew, oNa, oNa2, oObj, oCs, oCv, oCi, oIr, oZr, oVr, Nat.beq, List.getElem?_cons_zero, List.getElem?_cons_succ, List.set_cons_zero, List.set_cons_succ, List.length_cons, List.length_nil, List.nil_append, List.cons_append, List.append_nil, List.replicate_succ, List.replicate_zero, Nat.reduceAdd, Nat.reduceSub, Nat.reduceLT, Nat.reduceLeDiff, Nat.reduceBEq, true_and, and_true, Nat.zero_add, Nat.add_zero, Nat.le_refl, Option.some.injEq, exists_eq_left', true_or, or_true, or_false, false_or, reduceCtorEq, Prod.mk.injEq, Sum.inl.injEq, and_self, false_and, and_false, not_true_eq_false, not_false_eq_true, false_implies, true_implies, sm_r, Int.add_zero, Int.zero_add, wI_wsI, wS_wsI, wR_wsI, wI_wCp, wS_wCp, wR_wCp, Nat.reduceEqDiff, reduceIte, sT_iff, sT_iffC, wIf_ne, ne_eq, Bool.false_or, Bool.true_or, Bool.or_false, Bool.or_true, Bool.or_self, tb_X8_reasonIn, p_X8_hasLeft, p_X8_of, p_X8_placeIn, p_X8_stationIn, p_X8_stretchFrom, p_X8_way, f_X8_hasLeft, f_X8_of, f_X8_placeIn, f_X8_stationIn, f_X8_stretchFrom, f_X8_way, p_X8_reasonIn, f_X8_reasonIn, sS_154 hT, sR_154_0 hT, sS_155 hT, hT, hO]
      repeat' (first | exact True.intro | with_reducible assumption | with_reducible refine And.intro ?_ ?_ | intro _)
      all_goals first
        | omega
        | assumption
        | rfl
        | (split <;> omega)
        | (have k9 := ih (by omega)
           (repeat' split at k9) <;> first | exact k9 | omega)
        | (have k9 := ih2 (by omega)
           (repeat' split at k9) <;> first | exact k9 | omega)
        | exact he (by omega)
        | (congr 1; omega)
        | (rw [if_pos (by omega)] at he; exact he)
        | exact hD1 (by omega)
        | exact hD2 (by omega)
        | grind
        | skip
      )
    refine hZ (fun u => Nat.beq u 59) 14 0 _ _ _ _ _ ?_
    simp only [sm_run, sm_blk, sm_get, sm_ent, sm_ents, sm_wds, sm_wd, sm_nl, sm_pop, sm_back, sm_cases, oK, oLK, oL, oI, oA, oJ, oIs, oAs, oJs, oInc, oAdd, oSub, oMul, oDiv, oRem, oNeg, oAnd, oAndB, oOr, oShl, oI2c, oI2l, oL2i, oLand, oLor, oLshl, oLshr, oLushr, oLcmp, oDup, oDup2, oPop, oGo, oFg, oEq, oNe, oLt, oGe, oGt, oLe, oEq0, oNe0, oLt0, oGe0, oGt0, oLe0, oSw, oGi, oGr, oPi, oPz, oPr, oLen, oIl, oZl, oCl, oRl, oIst, oZst, oCst, oRst, oCopy, oNew, oNa, oNa2, oObj, oCs, oCv, oCi, oIr, oZr, oVr, Nat.beq, List.getElem?_cons_zero, List.getElem?_cons_succ, List.set_cons_zero, List.set_cons_succ, List.length_cons, List.length_nil, List.nil_append, List.cons_append, List.append_nil, List.replicate_succ, List.replicate_zero, Nat.reduceAdd, Nat.reduceSub, Nat.reduceLT, Nat.reduceLeDiff, Nat.reduceBEq, true_and, and_true, Nat.zero_add, Nat.add_zero, Nat.le_refl, Option.some.injEq, exists_eq_left', true_or, or_true, or_false, false_or, reduceCtorEq, Prod.mk.injEq, Sum.inl.injEq, and_self, false_and, and_false, not_true_eq_false, not_false_eq_true, false_implies, true_implies, sm_r, Int.add_zero, Int.zero_add, wI_wsI, wS_wsI, wR_wsI, wI_wCp, wS_wCp, wR_wCp, Nat.reduceEqDiff, reduceIte, sT_iff, sT_iffC, wIf_ne, ne_eq, Bool.false_or, Bool.true_or, Bool.or_false, Bool.or_true, Bool.or_self, tb_X8_reasonIn, p_X8_hasLeft, p_X8_of, p_X8_placeIn, p_X8_stationIn, p_X8_stretchFrom, p_X8_way, f_X8_hasLeft, f_X8_of, f_X8_placeIn, f_X8_stationIn, f_X8_stretchFrom, f_X8_way, p_X8_reasonIn, f_X8_reasonIn, sS_154 hT, sR_154_11 hT, sS_164 hT, hT, hO]
    repeat' (first | exact True.intro | with_reducible assumption | with_reducible refine And.intro ?_ ?_ | intro _)
    all_goals first
      | omega
      | assumption
      | rfl
      | (split <;> omega)
      | (have k9 := ih (by omega)
         (repeat' split at k9) <;> first | exact k9 | omega)
      | (have k9 := ih2 (by omega)
         (repeat' split at k9) <;> first | exact k9 | omega)
      | exact he (by omega)
      | (congr 1; omega)
      | (rw [if_pos (by omega)] at he; exact he)
      | exact hD1 (by omega)
      | exact hD2 (by omega)
      | skip
  · have hr : mReasonIn w x t = 0 := by unfold mReasonIn; rw [if_neg c1, if_neg c2, if_neg c3, if_neg c4]
    refine hZ (fun u => Nat.beq u 59) 14 0 _ _ _ _ _ ?_
    simp only [sm_run, sm_blk, sm_get, sm_ent, sm_ents, sm_wds, sm_wd, sm_nl, sm_pop, sm_back, sm_cases, oK, oLK, oL, oI, oA, oJ, oIs, oAs, oJs, oInc, oAdd, oSub, oMul, oDiv, oRem, oNeg, oAnd, oAndB, oOr, oShl, oI2c, oI2l, oL2i, oLand, oLor, oLshl, oLshr, oLushr, oLcmp, oDup, oDup2, oPop, oGo, oFg, oEq, oNe, oLt, oGe, oGt, oLe, oEq0, oNe0, oLt0, oGe0, oGt0, oLe0, oSw, oGi, oGr, oPi, oPz, oPr, oLen, oIl, oZl, oCl, oRl, oIst, oZst, oCst, oRst, oCopy, oNew, oNa, oNa2, oObj, oCs, oCv, oCi, oIr, oZr, oVr, Nat.beq, List.getElem?_cons_zero, List.getElem?_cons_succ, List.set_cons_zero, List.set_cons_succ, List.length_cons, List.length_nil, List.nil_append, List.cons_append, List.append_nil, List.replicate_succ, List.replicate_zero, Nat.reduceAdd, Nat.reduceSub, Nat.reduceLT, Nat.reduceLeDiff, Nat.reduceBEq, true_and, and_true, Nat.zero_add, Nat.add_zero, Nat.le_refl, Option.some.injEq, exists_eq_left', true_or, or_true, or_false, false_or, reduceCtorEq, Prod.mk.injEq, Sum.inl.injEq, and_self, false_and, and_false, not_true_eq_false, not_false_eq_true, false_implies, true_implies, sm_r, Int.add_zero, Int.zero_add, wI_wsI, wS_wsI, wR_wsI, wI_wCp, wS_wCp, wR_wCp, Nat.reduceEqDiff, reduceIte, sT_iff, sT_iffC, wIf_ne, ne_eq, Bool.false_or, Bool.true_or, Bool.or_false, Bool.or_true, Bool.or_self, tb_X8_reasonIn, p_X8_hasLeft, p_X8_of, p_X8_placeIn, p_X8_stationIn, p_X8_stretchFrom, p_X8_way, f_X8_hasLeft, f_X8_of, f_X8_placeIn, f_X8_stationIn, f_X8_stretchFrom, f_X8_way, p_X8_reasonIn, f_X8_reasonIn, sS_154 hT, sR_154_11 hT, sS_164 hT, hT, hO, hr]
    repeat' (first | exact True.intro | with_reducible assumption | with_reducible refine And.intro ?_ ?_ | intro _)
    all_goals first
      | omega
      | assumption
      | rfl
      | (split <;> omega)
      | (have k9 := ih (by omega)
         (repeat' split at k9) <;> first | exact k9 | omega)
      | (have k9 := ih2 (by omega)
         (repeat' split at k9) <;> first | exact k9 | omega)
      | exact he (by omega)
      | (congr 1; omega)
      | (rw [if_pos (by omega)] at he; exact he)
      | exact hD1 (by omega)
      | exact hD2 (by omega)
      | skip

theorem met_X8_reasonIn (l : Launch) : sm_Met l yX8_reasonIn cX8_reasonIn 7 (some .int) 4 0 0 p_X8_reasonIn f_X8_reasonIn := sm_met 1 (Or.inr (Or.inl ⟨rfl, rfl⟩)) (by decide +kernel) (sn_X8_reasonIn l) ok_X8_reasonIn
end
section
/-! THE REFERENCE: changes of the line, what is kept of it -/
def mH (w : sm_W) : Prop := (0 ≤ wI w 154 2 ∧ wI w 154 2 < 6) ∧ (0 ≤ wI w 154 3 ∧ wI w 154 3 ≤ 6)
def mKp0 (w : sm_W) : sm_W := if wI w 154 3 = 6 then wsI (wsI w 154 2 ((wI w 154 2 + 1) % 6)) 154 3 (wI w 154 3 - 1) else w
def mKp1 (s k : Int) (w : sm_W) : sm_W := wsI w 156 (57 * s + k) (wI w 155 k)
def mKeep (w : sm_W) : sm_W := wsI (itI (mKp1 ((wI (mKp0 w) 154 2 + wI (mKp0 w) 154 3) % 6)) (mKp0 w) 57) 154 3 (wI (mKp0 w) 154 3 + 1)
theorem mKp0_keep (w : sm_W) : (∀ a, a ≠ 154 → wI (mKp0 w) a = wI w a) ∧ (sT w → sT (mKp0 w)) ∧ (mH w → mH (mKp0 w) ∧ wI (mKp0 w) 154 3 ≤ 5) := by
  unfold mKp0
  split
  · refine ⟨fun a h => by rw [wIf_ne h, wIf_ne h], fun h => h, fun h => ?_⟩
    unfold mH at *
    simp only [wI_wsI, true_and, Int.reduceEq, if_false, if_true]
    omega
  · exact ⟨fun _ _ => rfl, fun h => h, fun h => ⟨h, by unfold mH at h; omega⟩⟩
theorem mKpL (s : Int) (w : sm_W) (n : Int) (hn : 0 ≤ n) : (∀ a, a ≠ 156 → wI (itI (mKp1 s) w n) a = wI w a) ∧ (sT w → sT (itI (mKp1 s) w n)) :=
  itI_ind (f := mKp1 s) (fun _ r => (∀ a, a ≠ 156 → wI r a = wI w a) ∧ (sT w → sT r)) n ⟨fun _ _ => rfl, id⟩ (fun i r _ _ hr => ⟨fun a h => by unfold mKp1; rw [wIf_ne h, hr.1 a h], hr.2⟩) n hn (Int.le_refl _)
def p_X8_keep : List sm_V → sm_W → Prop
  | [.inr (.inl m)], w => m = 154 ∧ sT w ∧ mH w
  | _, _ => False
def f_X8_keep : sm_F
  | [.inr (.inl m)], w => (none, mKeep w)
  | _, w => (none, w)
def tb_X8_keep : List (Nat × List sm_O) := [(0, [oA 0, oGi 8 30 3, oK 6, oNe 32, oA 0, oA 0, oGi 8 30 2, oK 1, oAdd, oK 6, oRem, oPi 8 30 2, oA 0, oDup, oGi 8 30 3, oK 1, oSub, oPi 8 30 3, oGo 32]),
  (32, [oA 0, oGi 8 30 2, oA 0, oGi 8 30 3, oAdd, oK 6, oRem, oIs 1, oK 0, oIs 2, oGo 47]),
  (47, [oI 2, oK 57, oGe 76, oA 0, oGr 8 30 1, oK 57, oI 1, oMul, oI 2, oAdd, oA 0, oGr 8 30 0, oI 2, oIl, oIst, oInc 2 1, oGo 47]),
  (76, [oA 0, oDup, oGi 8 30 3, oK 1, oAdd, oPi 8 30 3, oVr])]
set_option maxRecDepth 100000 in
theorem sb_X8_keep_0 (l : Launch) : sm_SndB l RX8 "keep" cX8_keep 3 0 0 0 [oA 0, oGi 8 30 3, oK 6, oNe 32, oA 0, oA 0, oGi 8 30 2, oK 1, oAdd, oK 6, oRem, oPi 8 30 2, oA 0, oDup, oGi 8 30 3, oK 1, oSub, oPi 8 30 3, oGo 32] := sb_cons (sd_aload_n (by decide +kernel : decode cX8_keep 0 = .ok (.aload_n 0, 1)) rfl) (sb_cons (sd_geti (k := 3) kl_8 (by decide) rfl wm_676 (by decide +kernel : decode cX8_keep 1 = .ok (.getfield 82, 3))) (sb_cons (sd_bipush (by decide +kernel : decode cX8_keep 4 = .ok (.bipush 6, 2)) ⟨by decide, by decide⟩ (by decide)) (sb_cons (sd_ne (by decide +kernel : decode cX8_keep 6 = .ok (.if_icmp .ne 26, 3)) (by decide)) (sb_cons (sd_aload_n (by decide +kernel : decode cX8_keep 9 = .ok (.aload_n 0, 1)) rfl) (sb_cons (sd_aload_n (by decide +kernel : decode cX8_keep 10 = .ok (.aload_n 0, 1)) rfl) (sb_cons (sd_geti (k := 2) kl_8 (by decide) rfl wm_675 (by decide +kernel : decode cX8_keep 11 = .ok (.getfield 86, 3))) (sb_cons (sd_iconst (by decide +kernel : decode cX8_keep 14 = .ok (.iconst 1, 1)) ⟨by decide, by decide⟩) (sb_cons (sd_iadd (by decide +kernel : decode cX8_keep 15 = .ok (.iadd, 1))) (sb_cons (sd_bipush (by decide +kernel : decode cX8_keep 16 = .ok (.bipush 6, 2)) ⟨by decide, by decide⟩ (by decide)) (sb_cons (sd_irem (by decide +kernel : decode cX8_keep 18 = .ok (.irem, 1))) (sb_cons (sd_puti (k := 2) kl_8 (by decide) rfl (Or.inl rfl) wm_675 (by decide +kernel : decode cX8_keep 19 = .ok (.putfield 86, 3))) (sb_cons (sd_aload_n (by decide +kernel : decode cX8_keep 22 = .ok (.aload_n 0, 1)) rfl) (sb_cons (sd_dup (by decide +kernel : decode cX8_keep 23 = .ok (.dup, 1))) (sb_cons (sd_geti (k := 3) kl_8 (by decide) rfl wm_676 (by decide +kernel : decode cX8_keep 24 = .ok (.getfield 82, 3))) (sb_cons (sd_iconst (by decide +kernel : decode cX8_keep 27 = .ok (.iconst 1, 1)) ⟨by decide, by decide⟩) (sb_cons (sd_isub (by decide +kernel : decode cX8_keep 28 = .ok (.isub, 1))) (sb_cons (sd_puti (k := 3) kl_8 (by decide) rfl (Or.inl rfl) wm_676 (by decide +kernel : decode cX8_keep 29 = .ok (.putfield 82, 3))) (sb_cons (sd_fall (x := 0)) sb_nil))))))))))))))))))
set_option maxRecDepth 100000 in
theorem sb_X8_keep_32 (l : Launch) : sm_SndB l RX8 "keep" cX8_keep 3 0 0 32 [oA 0, oGi 8 30 2, oA 0, oGi 8 30 3, oAdd, oK 6, oRem, oIs 1, oK 0, oIs 2, oGo 47] := sb_cons (sd_aload_n (by decide +kernel : decode cX8_keep 32 = .ok (.aload_n 0, 1)) rfl) (sb_cons (sd_geti (k := 2) kl_8 (by decide) rfl wm_675 (by decide +kernel : decode cX8_keep 33 = .ok (.getfield 86, 3))) (sb_cons (sd_aload_n (by decide +kernel : decode cX8_keep 36 = .ok (.aload_n 0, 1)) rfl) (sb_cons (sd_geti (k := 3) kl_8 (by decide) rfl wm_676 (by decide +kernel : decode cX8_keep 37 = .ok (.getfield 82, 3))) (sb_cons (sd_iadd (by decide +kernel : decode cX8_keep 40 = .ok (.iadd, 1))) (sb_cons (sd_bipush (by decide +kernel : decode cX8_keep 41 = .ok (.bipush 6, 2)) ⟨by decide, by decide⟩ (by decide)) (sb_cons (sd_irem (by decide +kernel : decode cX8_keep 43 = .ok (.irem, 1))) (sb_cons (sd_istore_n (by decide +kernel : decode cX8_keep 44 = .ok (.istore_n 1, 1)) rfl) (sb_cons (sd_iconst (by decide +kernel : decode cX8_keep 45 = .ok (.iconst 0, 1)) ⟨by decide, by decide⟩) (sb_cons (sd_istore_n (by decide +kernel : decode cX8_keep 46 = .ok (.istore_n 2, 1)) rfl) (sb_cons (sd_fall (x := 0)) sb_nil))))))))))
set_option maxRecDepth 100000 in
theorem sb_X8_keep_47 (l : Launch) : sm_SndB l RX8 "keep" cX8_keep 3 0 0 47 [oI 2, oK 57, oGe 76, oA 0, oGr 8 30 1, oK 57, oI 1, oMul, oI 2, oAdd, oA 0, oGr 8 30 0, oI 2, oIl, oIst, oInc 2 1, oGo 47] := sb_cons (sd_iload_n (by decide +kernel : decode cX8_keep 47 = .ok (.iload_n 2, 1)) rfl) (sb_cons (sd_bipush (by decide +kernel : decode cX8_keep 48 = .ok (.bipush 57, 2)) ⟨by decide, by decide⟩ (by decide)) (sb_cons (sd_ge (by decide +kernel : decode cX8_keep 50 = .ok (.if_icmp .ge 26, 3)) (by decide)) (sb_cons (sd_aload_n (by decide +kernel : decode cX8_keep 53 = .ok (.aload_n 0, 1)) rfl) (sb_cons (sd_getr (k := 1) kl_8 (by decide) rfl wm_674 (by decide +kernel : decode cX8_keep 54 = .ok (.getfield 13, 3))) (sb_cons (sd_bipush (by decide +kernel : decode cX8_keep 57 = .ok (.bipush 57, 2)) ⟨by decide, by decide⟩ (by decide)) (sb_cons (sd_iload_n (by decide +kernel : decode cX8_keep 59 = .ok (.iload_n 1, 1)) rfl) (sb_cons (sd_imul (by decide +kernel : decode cX8_keep 60 = .ok (.imul, 1))) (sb_cons (sd_iload_n (by decide +kernel : decode cX8_keep 61 = .ok (.iload_n 2, 1)) rfl) (sb_cons (sd_iadd (by decide +kernel : decode cX8_keep 62 = .ok (.iadd, 1))) (sb_cons (sd_aload_n (by decide +kernel : decode cX8_keep 63 = .ok (.aload_n 0, 1)) rfl) (sb_cons (sd_getr (k := 0) kl_8 (by decide) rfl wm_673 (by decide +kernel : decode cX8_keep 64 = .ok (.getfield 7, 3))) (sb_cons (sd_iload_n (by decide +kernel : decode cX8_keep 67 = .ok (.iload_n 2, 1)) rfl) (sb_cons (sd_iaload (by decide +kernel : decode cX8_keep 68 = .ok (.iaload, 1))) (sb_cons (sd_iastore (by decide +kernel : decode cX8_keep 69 = .ok (.iastore, 1))) (sb_cons (sd_iinc (by decide +kernel : decode cX8_keep 70 = .ok (.iinc 2 1, 3))) (sb_cons (sd_goto (x := 0) (by decide +kernel : decode cX8_keep 73 = .ok (.goto (-26), 3)) (by decide)) sb_nil))))))))))))))))
set_option maxRecDepth 100000 in
theorem sb_X8_keep_76 (l : Launch) : sm_SndB l RX8 "keep" cX8_keep 3 0 0 76 [oA 0, oDup, oGi 8 30 3, oK 1, oAdd, oPi 8 30 3, oVr] := sb_cons (sd_aload_n (by decide +kernel : decode cX8_keep 76 = .ok (.aload_n 0, 1)) rfl) (sb_cons (sd_dup (by decide +kernel : decode cX8_keep 77 = .ok (.dup, 1))) (sb_cons (sd_geti (k := 3) kl_8 (by decide) rfl wm_676 (by decide +kernel : decode cX8_keep 78 = .ok (.getfield 82, 3))) (sb_cons (sd_iconst (by decide +kernel : decode cX8_keep 81 = .ok (.iconst 1, 1)) ⟨by decide, by decide⟩) (sb_cons (sd_iadd (by decide +kernel : decode cX8_keep 82 = .ok (.iadd, 1))) (sb_cons (sd_puti (k := 3) kl_8 (by decide) rfl (Or.inl rfl) wm_676 (by decide +kernel : decode cX8_keep 83 = .ok (.putfield 82, 3))) (sb_cons (sd_return (x := 0) rfl (by decide +kernel : decode cX8_keep 86 = .ok (.return_, 1))) sb_nil))))))
theorem sn_X8_keep (l : Launch) : sm_SndT l RX8 "keep" cX8_keep 3 0 0 tb_X8_keep := st_cons (sb_X8_keep_0 l) (st_cons (sb_X8_keep_32 l) (st_cons (sb_X8_keep_47 l) (st_cons (sb_X8_keep_76 l) (st_nil))))
set_option maxRecDepth 100000 in
set_option maxHeartbeats 4000000 in
theorem ok_X8_keep : sm_Ok tb_X8_keep 3 0 0 p_X8_keep f_X8_keep := by
  intro as w hp ha hw
  match as, hp with
  | [.inr (.inl m)], hp =>
  refine ⟨Nat.le_of_ble_eq_true rfl, fun Z hZ => ?_⟩
  obtain ⟨rfl, hT, hH⟩ := hp
  obtain ⟨k1, k2, k3⟩ := mKp0_keep w
  obtain ⟨k3, k4⟩ := k3 hH
  have hT0 := k2 hT
  unfold mH at k3 hH
  have hs : 0 ≤ (wI (mKp0 w) 154 2 + wI (mKp0 w) 154 3) % 6 ∧ (wI (mKp0 w) 154 2 + wI (mKp0 w) 154 3) % 6 < 6 := by omega
  have hl := sm_loopI Z 47 0 57 (fun i => [some (.inr (.inl 154)), some (.inl ((wI (mKp0 w) 154 2 + wI (mKp0 w) 154 3) % 6)), some (.inl i)]) (fun i => itI (mKp1 ((wI (mKp0 w) 154 2 + wI (mKp0 w) 154 3) % 6)) (mKp0 w) i) 0 0 (by decide) (fun i h0 h1 ih => by
    obtain ⟨j1, j2⟩ := mKpL ((wI (mKp0 w) 154 2 + wI (mKp0 w) 154 3) % 6) (mKp0 w) i h0
    have hT := j2 hT0
    rw [itI_s _ _ h0] at ih
    have j3 := congrFun (j1 154 (by decide)) 3
    have he : i = 57 → wsI (itI (mKp1 ((wI (mKp0 w) 154 2 + wI (mKp0 w) 154 3) % 6)) (mKp0 w) i) 154 3 (wI (itI (mKp1 ((wI (mKp0 w) 154 2 + wI (mKp0 w) 154 3) % 6)) (mKp0 w) i) 154 3 + 1) = mKeep w := fun e => by rw [e] at j3 ⊢; rw [j3]; rfl
    generalize itI (mKp1 ((wI (mKp0 w) 154 2 + wI (mKp0 w) 154 3) % 6)) (mKp0 w) i = u at *
    generalize (wI (mKp0 w) 154 2 + wI (mKp0 w) 154 3) % 6 = s at *
    unfold mKp1 at ih
    refine hZ (fun u => Nat.beq u 47) 14 47 _ _ _ _ _ ?_
    simp only [sm_run, sm_blk, sm_get, sm_ent, sm_ents, sm_wds, sm_wd, sm_nl, sm_pop, sm_back, sm_cases, oK, oLK, oL, oI, oA, oJ, oIs, oAs, oJs, oInc, oAdd, oSub, oMul, oDiv, oRem, oNeg, oAnd, oAndB, oOr, oShl, oI2c, oI2l, oL2i, oLand, oLor, oLshl, oLshr, oLushr, oLcmp, oDup, oDup2, oPop, oGo, oFg, oEq, oNe, oLt, oGe, oGt, oLe, oEq0, oNe0, oLt0, oGe0, oGt0, oLe0, oSw, oGi, oGr, oPi, oPz, oPr, oLen, oIl, oZl, oCl, oRl, oIst, oZst, oCst, oRst, oCopy, oNew, oNa, oNa2, oObj, oCs, oCv, oCi, oIr, oZr, oVr, Nat.beq, List.getElem?_cons_zero, List.getElem?_cons_succ, List.set_cons_zero, List.set_cons_succ, List.length_cons, List.length_nil, List.nil_append, List.cons_append, List.append_nil, List.replicate_succ, List.replicate_zero, Nat.reduceAdd, Nat.reduceSub, Nat.reduceLT, Nat.reduceLeDiff, Nat.reduceBEq, true_and, and_true, Nat.zero_add, Nat.add_zero, Nat.le_refl, Option.some.injEq, exists_eq_left', true_or, or_true, or_false, false_or, reduceCtorEq, Prod.mk.injEq, Sum.inl.injEq, and_self, false_and, and_false, not_true_eq_false, not_false_eq_true, false_implies, true_implies, sm_r, Int.add_zero, Int.zero_add, wI_wsI, wS_wsI, wR_wsI, wI_wCp, wS_wCp, wR_wCp, Nat.reduceEqDiff, reduceIte, sT_iff, sT_iffC, wIf_ne, ne_eq, Bool.false_or, Bool.true_or, Bool.or_false, Bool.or_true, Bool.or_self, tb_X8_keep, p_X8_keep, f_X8_keep, sS_154 hT, sR_154_0 hT, sS_155 hT, sR_154_1 hT, sS_156 hT, hT]
    repeat' (first | exact True.intro | with_reducible assumption | with_reducible refine And.intro ?_ ?_ | intro _)
    all_goals first
      | omega
      | assumption
      | rfl
      | (split <;> omega)
      | (have k9 := ih (by omega)
         (repeat' split at k9) <;> first | exact k9 | omega)
      | (have k9 := ih2 (by omega)
         (repeat' split at k9) <;> first | exact k9 | omega)
      | exact he (by omega)
      | (congr 1; omega)
      | (rw [if_pos (by omega)] at he; exact he)
      | exact hD1 (by omega)
      | exact hD2 (by omega)
      | grind
      | skip
    )
  rw [itI_0] at hl
  by_cases c : wI w 154 3 = 6
  · have e0 : mKp0 w = wsI (wsI w 154 2 ((wI w 154 2 + 1) % 6)) 154 3 (wI w 154 3 - 1) := if_pos c
    rw [e0] at hl hs
    simp only [wI_wsI, true_and, Int.reduceEq, if_false, if_true] at hl hs
    refine hZ (fun u => Nat.beq u 47) 14 0 _ _ _ _ _ ?_
    simp only [sm_run, sm_blk, sm_get, sm_ent, sm_ents, sm_wds, sm_wd, sm_nl, sm_pop, sm_back, sm_cases, oK, oLK, oL, oI, oA, oJ, oIs, oAs, oJs, oInc, oAdd, oSub, oMul, oDiv, oRem, oNeg, oAnd, oAndB, oOr, oShl, oI2c, oI2l, oL2i, oLand, oLor, oLshl, oLshr, oLushr, oLcmp, oDup, oDup2, oPop, oGo, oFg, oEq, oNe, oLt, oGe, oGt, oLe, oEq0, oNe0, oLt0, oGe0, oGt0, oLe0, oSw, oGi, oGr, oPi, oPz, oPr, oLen, oIl, oZl, oCl, oRl, oIst, oZst, oCst, oRst, oCopy, oNew, oNa, oNa2, oObj, oCs, oCv, oCi, oIr, oZr, oVr, Nat.beq, List.getElem?_cons_zero, List.getElem?_cons_succ, List.set_cons_zero, List.set_cons_succ, List.length_cons, List.length_nil, List.nil_append, List.cons_append, List.append_nil, List.replicate_succ, List.replicate_zero, Nat.reduceAdd, Nat.reduceSub, Nat.reduceLT, Nat.reduceLeDiff, Nat.reduceBEq, true_and, and_true, Nat.zero_add, Nat.add_zero, Nat.le_refl, Option.some.injEq, exists_eq_left', true_or, or_true, or_false, false_or, reduceCtorEq, Prod.mk.injEq, Sum.inl.injEq, and_self, false_and, and_false, not_true_eq_false, not_false_eq_true, false_implies, true_implies, sm_r, Int.add_zero, Int.zero_add, wI_wsI, wS_wsI, wR_wsI, wI_wCp, wS_wCp, wR_wCp, Nat.reduceEqDiff, reduceIte, sT_iff, sT_iffC, wIf_ne, ne_eq, Bool.false_or, Bool.true_or, Bool.or_false, Bool.or_true, Bool.or_self, tb_X8_keep, p_X8_keep, f_X8_keep, sS_154 hT, hT, sT_iff, Int.reduceEq]
    repeat' (first | exact True.intro | with_reducible assumption | with_reducible refine And.intro ?_ ?_ | intro _)
    all_goals first
      | omega
      | assumption
      | rfl
      | (split <;> omega)
      | (have k9 := ih (by omega)
         (repeat' split at k9) <;> first | exact k9 | omega)
      | (have k9 := ih2 (by omega)
         (repeat' split at k9) <;> first | exact k9 | omega)
      | exact he (by omega)
      | (congr 1; omega)
      | (rw [if_pos (by omega)] at he; exact he)
      | exact hD1 (by omega)
      | exact hD2 (by omega)
      | skip
  · have e0 : mKp0 w = w := if_neg c
    rw [e0] at hl hs
    refine hZ (fun u => Nat.beq u 47) 14 0 _ _ _ _ _ ?_
    simp only [sm_run, sm_blk, sm_get, sm_ent, sm_ents, sm_wds, sm_wd, sm_nl, sm_pop, sm_back, sm_cases, oK, oLK, oL, oI, oA, oJ, oIs, oAs, oJs, oInc, oAdd, oSub, oMul, oDiv, oRem, oNeg, oAnd, oAndB, oOr, oShl, oI2c, oI2l, oL2i, oLand, oLor, oLshl, oLshr, oLushr, oLcmp, oDup, oDup2, oPop, oGo, oFg, oEq, oNe, oLt, oGe, oGt, oLe, oEq0, oNe0, oLt0, oGe0, oGt0, oLe0, oSw, oGi, oGr, oPi, oPz, oPr, oLen, oIl, oZl, oCl, oRl, oIst, oZst, oCst, oRst, oCopy, oNew, oNa, oNa2, oObj, oCs, oCv, oCi, oIr, oZr, oVr, Nat.beq, List.getElem?_cons_zero, List.getElem?_cons_succ, List.set_cons_zero, List.set_cons_succ, List.length_cons, List.length_nil, List.nil_append, List.cons_append, List.append_nil, List.replicate_succ, List.replicate_zero, Nat.reduceAdd, Nat.reduceSub, Nat.reduceLT, Nat.reduceLeDiff, Nat.reduceBEq, true_and, and_true, Nat.zero_add, Nat.add_zero, Nat.le_refl, Option.some.injEq, exists_eq_left', true_or, or_true, or_false, false_or, reduceCtorEq, Prod.mk.injEq, Sum.inl.injEq, and_self, false_and, and_false, not_true_eq_false, not_false_eq_true, false_implies, true_implies, sm_r, Int.add_zero, Int.zero_add, wI_wsI, wS_wsI, wR_wsI, wI_wCp, wS_wCp, wR_wCp, Nat.reduceEqDiff, reduceIte, sT_iff, sT_iffC, wIf_ne, ne_eq, Bool.false_or, Bool.true_or, Bool.or_false, Bool.or_true, Bool.or_self, tb_X8_keep, p_X8_keep, f_X8_keep, sS_154 hT, hT]
    repeat' (first | exact True.intro | with_reducible assumption | with_reducible refine And.intro ?_ ?_ | intro _)
    all_goals first
      | omega
      | assumption
      | rfl
      | (split <;> omega)
      | (have k9 := ih (by omega)
         (repeat' split at k9) <;> first | exact k9 | omega)
      | (have k9 := ih2 (by omega)
         (repeat' split at k9) <;> first | exact k9 | omega)
      | exact he (by omega)
      | (congr 1; omega)
      | (rw [if_pos (by omega)] at he; exact he)
      | exact hD1 (by omega)
      | exact hD2 (by omega)
      | skip
theorem met_X8_keep (l : Launch) : sm_Met l yX8_keep cX8_keep 3 none 0 0 0 p_X8_keep f_X8_keep := sm_met 0 (Or.inl ⟨rfl, rfl⟩) (by decide +kernel) (sn_X8_keep l) ok_X8_keep
def mKf (w : sm_W) (b : Int) : sm_W := if b = 0 then w else mKeep w
def p_X8_keepIf : List sm_V → sm_W → Prop
  | [.inr (.inl m), .inl b], w => m = 154 ∧ sT w ∧ mH w
  | _, _ => False
def f_X8_keepIf : sm_F
  | [.inr (.inl m), .inl b], w => (none, mKf w b)
  | _, w => (none, w)
def tb_X8_keepIf : List (Nat × List sm_O) := [(0, [oI 1, oEq0 8, oA 0, oCv 8 30 p_X8_keep f_X8_keep 0 0 1, oGo 8]),
  (8, [oVr])]
set_option maxRecDepth 100000 in
theorem sb_X8_keepIf_0 (l : Launch) : sm_SndB l RX8 "keepIf" cX8_keepIf 2 0 1 0 [oI 1, oEq0 8, oA 0, oCv 8 30 p_X8_keep f_X8_keep 0 0 1, oGo 8] := sb_cons (sd_iload_n (by decide +kernel : decode cX8_keepIf 0 = .ok (.iload_n 1, 1)) rfl) (sb_cons (sd_eq0 (by decide +kernel : decode cX8_keepIf 1 = .ok (.ifCond .eq 7, 3)) (by decide)) (sb_cons (sd_aload_n (by decide +kernel : decode cX8_keepIf 4 = .ok (.aload_n 0, 1)) rfl) (sb_cons (sd_callv (n := 0) (met_X8_keep l) (by decide) (by decide) wm_714 wm_712 wm_10 ⟨by decide +kernel, by decide +kernel, by decide +kernel⟩ kl_8 wm_713 wm_1104 (by decide +kernel : decode cX8_keepIf 5 = .ok (.invokevirtual 89, 3))) (sb_cons (sd_fall (x := 0)) sb_nil))))
set_option maxRecDepth 100000 in
theorem sb_X8_keepIf_8 (l : Launch) : sm_SndB l RX8 "keepIf" cX8_keepIf 2 0 1 8 [oVr] := sb_cons (sd_return (x := 0) rfl (by decide +kernel : decode cX8_keepIf 8 = .ok (.return_, 1))) sb_nil
theorem sn_X8_keepIf (l : Launch) : sm_SndT l RX8 "keepIf" cX8_keepIf 2 0 1 tb_X8_keepIf := st_cons (sb_X8_keepIf_0 l) (st_cons (sb_X8_keepIf_8 l) (st_nil))
set_option maxRecDepth 100000 in
set_option maxHeartbeats 4000000 in
theorem ok_X8_keepIf : sm_Ok tb_X8_keepIf 2 0 0 p_X8_keepIf f_X8_keepIf := by
  intro as w hp ha hw
  match as, hp with
  | [.inr (.inl m), .inl b], hp =>
  refine ⟨Nat.le_of_ble_eq_true rfl, fun Z hZ => ?_⟩
  obtain ⟨rfl, hT, hH⟩ := hp
  refine hZ (fun _ => false) 16 0 _ _ _ _ _ ?_
  simp only [sm_run, sm_blk, sm_get, sm_ent, sm_ents, sm_wds, sm_wd, sm_nl, sm_pop, sm_back, sm_cases, oK, oLK, oL, oI, oA, oJ, oIs, oAs, oJs, oInc, oAdd, oSub, oMul, oDiv, oRem, oNeg, oAnd, oAndB, oOr, oShl, oI2c, oI2l, oL2i, oLand, oLor, oLshl, oLshr, oLushr, oLcmp, oDup, oDup2, oPop, oGo, oFg, oEq, oNe, oLt, oGe, oGt, oLe, oEq0, oNe0, oLt0, oGe0, oGt0, oLe0, oSw, oGi, oGr, oPi, oPz, oPr, oLen, oIl, oZl, oCl, oRl, oIst, oZst, oCst, oRst, oCopy, oNew, oNa, oNa2, oObj, oCs, oCv, oCi, oIr, oZr, oVr, Nat.beq, List.getElem?_cons_zero, List.getElem?_cons_succ, List.set_cons_zero, List.set_cons_succ, List.length_cons, List.length_nil, List.nil_append, List.cons_append, List.append_nil, List.replicate_succ, List.replicate_zero, Nat.reduceAdd, Nat.reduceSub, Nat.reduceLT, Nat.reduceLeDiff, Nat.reduceBEq, true_and, and_true, Nat.zero_add, Nat.add_zero, Nat.le_refl, Option.some.injEq, exists_eq_left', true_or, or_true, or_false, false_or, reduceCtorEq, Prod.mk.injEq, Sum.inl.injEq, and_self, false_and, and_false, not_true_eq_false, not_false_eq_true, false_implies, true_implies, sm_r, Int.add_zero, Int.zero_add, wI_wsI, wS_wsI, wR_wsI, wI_wCp, wS_wCp, wR_wCp, Nat.reduceEqDiff, reduceIte, sT_iff, sT_iffC, wIf_ne, ne_eq, Bool.false_or, Bool.true_or, Bool.or_false, Bool.or_true, Bool.or_self, tb_X8_keepIf, p_X8_keep, f_X8_keep, p_X8_keepIf, f_X8_keepIf, sS_154 hT, hT, hH]
  repeat' (first | exact True.intro | with_reducible assumption | with_reducible refine And.intro ?_ ?_ | intro _)
  all_goals first
    | omega
    | assumption
    | rfl
    | (split <;> omega)
    | grind [mKf]
    | skip
theorem met_X8_keepIf (l : Launch) : sm_Met l yX8_keepIf cX8_keepIf 2 none 1 0 0 p_X8_keepIf f_X8_keepIf := sm_met 0 (Or.inl ⟨rfl, rfl⟩) (by decide +kernel) (sn_X8_keepIf l) ok_X8_keepIf
theorem mKeep_keep {w : sm_W} : (∀ a, a ≠ 154 → a ≠ 156 → wI (mKeep w) a = wI w a) ∧ (sT w → sT (mKeep w)) := by
  obtain ⟨k1, k2, k3⟩ := mKp0_keep w
  obtain ⟨j1, j2⟩ := mKpL ((wI (mKp0 w) 154 2 + wI (mKp0 w) 154 3) % 6) (mKp0 w) 57 (by decide)
  unfold mKeep
  generalize itI (mKp1 ((wI (mKp0 w) 154 2 + wI (mKp0 w) 154 3) % 6)) (mKp0 w) 57 = u at j1 j2 ⊢
  exact ⟨fun a h1 h2 => by rw [wIf_ne h1, j1 a h2, k1 a h1], fun h => sT_wsI (j2 (k2 h))⟩
theorem mKf_keep {w : sm_W} (b : Int) : (∀ a, a ≠ 154 → a ≠ 156 → wI (mKf w b) a = wI w a) ∧ (sT w → sT (mKf w b)) := by
  unfold mKf
  split
  · exact ⟨fun _ _ _ => rfl, id⟩
  · exact mKeep_keep
theorem mKf_at (w : sm_W) (b : Int) : wI (mKf w b) 155 = wI w 155 := (mKf_keep b).1 _ (by decide) (by decide)
def p_X8_change : List sm_V → sm_W → Prop
  | [.inr (.inl m), .inl c, .inl v, .inl b], w => m = 154 ∧ sT w ∧ mH w ∧ 0 ≤ c ∧ c < 57
  | _, _ => False
def f_X8_change : sm_F
  | [.inr (.inl m), .inl c, .inl v, .inl b], w => (some (.inl (wI w 155 c)), wsI (mKf w b) 155 c v)
  | _, w => (none, w)
def tb_X8_change : List (Nat × List sm_O) := [(0, [oA 0, oI 3, oCv 8 30 p_X8_keepIf f_X8_keepIf 0 0 2, oA 0, oGr 8 30 0, oI 1, oIl, oIs 4, oA 0, oGr 8 30 0, oI 1, oI 2, oIst, oI 4, oIr])]
set_option maxRecDepth 100000 in
theorem sb_X8_change_0 (l : Launch) : sm_SndB l RX8 "change" cX8_change 5 1 2 0 [oA 0, oI 3, oCv 8 30 p_X8_keepIf f_X8_keepIf 0 0 2, oA 0, oGr 8 30 0, oI 1, oIl, oIs 4, oA 0, oGr 8 30 0, oI 1, oI 2, oIst, oI 4, oIr] := sb_cons (sd_aload_n (by decide +kernel : decode cX8_change 0 = .ok (.aload_n 0, 1)) rfl) (sb_cons (sd_iload_n (by decide +kernel : decode cX8_change 1 = .ok (.iload_n 3, 1)) rfl) (sb_cons (sd_callv (n := 1) (met_X8_keepIf l) (by decide) (by decide) wm_735 wm_733 wm_10 ⟨by decide +kernel, by decide +kernel, by decide +kernel⟩ kl_8 wm_734 wm_1107 (by decide +kernel : decode cX8_change 2 = .ok (.invokevirtual 174, 3))) (sb_cons (sd_aload_n (by decide +kernel : decode cX8_change 5 = .ok (.aload_n 0, 1)) rfl) (sb_cons (sd_getr (k := 0) kl_8 (by decide) rfl wm_673 (by decide +kernel : decode cX8_change 6 = .ok (.getfield 7, 3))) (sb_cons (sd_iload_n (by decide +kernel : decode cX8_change 9 = .ok (.iload_n 1, 1)) rfl) (sb_cons (sd_iaload (by decide +kernel : decode cX8_change 10 = .ok (.iaload, 1))) (sb_cons (sd_istore (by decide +kernel : decode cX8_change 11 = .ok (.istore 4, 2))) (sb_cons (sd_aload_n (by decide +kernel : decode cX8_change 13 = .ok (.aload_n 0, 1)) rfl) (sb_cons (sd_getr (k := 0) kl_8 (by decide) rfl wm_673 (by decide +kernel : decode cX8_change 14 = .ok (.getfield 7, 3))) (sb_cons (sd_iload_n (by decide +kernel : decode cX8_change 17 = .ok (.iload_n 1, 1)) rfl) (sb_cons (sd_iload_n (by decide +kernel : decode cX8_change 18 = .ok (.iload_n 2, 1)) rfl) (sb_cons (sd_iastore (by decide +kernel : decode cX8_change 19 = .ok (.iastore, 1))) (sb_cons (sd_iload (by decide +kernel : decode cX8_change 20 = .ok (.iload 4, 2))) (sb_cons (sd_ireturn (x := 0) rfl (by decide +kernel : decode cX8_change 22 = .ok (.ireturn, 1))) sb_nil))))))))))))))
theorem sn_X8_change (l : Launch) : sm_SndT l RX8 "change" cX8_change 5 1 2 tb_X8_change := st_cons (sb_X8_change_0 l) (st_nil)
set_option maxRecDepth 100000 in
set_option maxHeartbeats 4000000 in
theorem ok_X8_change : sm_Ok tb_X8_change 5 0 0 p_X8_change f_X8_change := by
  intro as w hp ha hw
  match as, hp with
  | [.inr (.inl m), .inl c, .inl v, .inl b], hp =>
  refine ⟨Nat.le_of_ble_eq_true rfl, fun Z hZ => ?_⟩
  obtain ⟨rfl, hT, hH, c0, c1⟩ := hp
  have hT2 := (mKf_keep (w := w) b).2 hT
  have ha := mKf_at w b
  refine hZ (fun _ => false) 16 0 _ _ _ _ _ ?_
  simp only [sm_run, sm_blk, sm_get, sm_ent, sm_ents, sm_wds, sm_wd, sm_nl, sm_pop, sm_back, sm_cases, oK, oLK, oL, oI, oA, oJ, oIs, oAs, oJs, oInc, oAdd, oSub, oMul, oDiv, oRem, oNeg, oAnd, oAndB, oOr, oShl, oI2c, oI2l, oL2i, oLand, oLor, oLshl, oLshr, oLushr, oLcmp, oDup, oDup2, oPop, oGo, oFg, oEq, oNe, oLt, oGe, oGt, oLe, oEq0, oNe0, oLt0, oGe0, oGt0, oLe0, oSw, oGi, oGr, oPi, oPz, oPr, oLen, oIl, oZl, oCl, oRl, oIst, oZst, oCst, oRst, oCopy, oNew, oNa, oNa2, oObj, oCs, oCv, oCi, oIr, oZr, oVr, Nat.beq, List.getElem?_cons_zero, List.getElem?_cons_succ, List.set_cons_zero, List.set_cons_succ, List.length_cons, List.length_nil, List.nil_append, List.cons_append, List.append_nil, List.replicate_succ, List.replicate_zero, Nat.reduceAdd, Nat.reduceSub, Nat.reduceLT, Nat.reduceLeDiff, Nat.reduceBEq, true_and, and_true, Nat.zero_add, Nat.add_zero, Nat.le_refl, Option.some.injEq, exists_eq_left', true_or, or_true, or_false, false_or, reduceCtorEq, Prod.mk.injEq, Sum.inl.injEq, and_self, false_and, and_false, not_true_eq_false, not_false_eq_true, false_implies, true_implies, sm_r, Int.add_zero, Int.zero_add, wI_wsI, wS_wsI, wR_wsI, wI_wCp, wS_wCp, wR_wCp, Nat.reduceEqDiff, reduceIte, sT_iff, sT_iffC, wIf_ne, ne_eq, Bool.false_or, Bool.true_or, Bool.or_false, Bool.or_true, Bool.or_self, tb_X8_change, p_X8_keepIf, f_X8_keepIf, p_X8_change, f_X8_change, sS_154 hT, sS_154 hT2, sR_154_0 hT2, sS_155 hT2, hT, hH, ha]
  repeat' (first | exact True.intro | with_reducible assumption | with_reducible refine And.intro ?_ ?_ | intro _)
  all_goals first
    | omega
    | assumption
    | rfl
    | (split <;> omega)
    | skip
theorem met_X8_change (l : Launch) : sm_Met l yX8_change cX8_change 5 (some .int) 2 0 0 p_X8_change f_X8_change := sm_met 1 (Or.inr (Or.inl ⟨rfl, rfl⟩)) (by decide +kernel) (sn_X8_change l) ok_X8_change
def p_X8_tryTracks : List sm_V → sm_W → Prop
  | [.inr (.inl m), .inl s, .inl v, .inl b], w => m = 154 ∧ sT w ∧ mH w
  | _, _ => False
def f_X8_tryTracks : sm_F
  | [.inr (.inl m), .inl s, .inl v, .inl b], w => (some (.inl (if 0 ≤ s ∧ s ≤ 7 then (if 1 ≤ v ∧ v ≤ 4 then wI w 155 (2 + s) else -2) else -1)), (if 0 ≤ s ∧ s ≤ 7 then (if 1 ≤ v ∧ v ≤ 4 then wsI (mKf w b) 155 (2 + s) v else w) else w))
  | _, w => (none, w)
def tb_X8_tryTracks : List (Nat × List sm_O) := [(0, [oI 1, oCs p_X8_isStation f_X8_isStation 0 0 1, oNe0 9, oK (-1), oIr]),
  (9, [oI 2, oK 1, oK 4, oCs p_X8_in f_X8_in 0 0 3, oEq0 30, oA 0, oK 2, oI 1, oAdd, oI 2, oI 3, oCv 8 30 p_X8_change f_X8_change 0 0 4, oGo 32]),
  (30, [oK (-2), oGo 32]),
  (32, [oIr])]
set_option maxRecDepth 100000 in
theorem sb_X8_tryTracks_0 (l : Launch) : sm_SndB l RX8 "tryTracks" cX8_tryTracks 4 1 3 0 [oI 1, oCs p_X8_isStation f_X8_isStation 0 0 1, oNe0 9, oK (-1), oIr] := sb_cons (sd_iload_n (by decide +kernel : decode cX8_tryTracks 0 = .ok (.iload_n 1, 1)) rfl) (sb_cons (sd_calls (n := 1) (met_X8_isStation l) (by decide) (by decide) wm_727 wm_725 wm_10 ⟨by decide +kernel, by decide +kernel, by decide +kernel⟩ wm_726 (by decide +kernel : decode cX8_tryTracks 1 = .ok (.invokestatic 178, 3))) (sb_cons (sd_ne0 (by decide +kernel : decode cX8_tryTracks 4 = .ok (.ifCond .ne 5, 3)) (by decide)) (sb_cons (sd_iconst (by decide +kernel : decode cX8_tryTracks 7 = .ok (.iconst (-1), 1)) ⟨by decide, by decide⟩) (sb_cons (sd_ireturn (x := 0) rfl (by decide +kernel : decode cX8_tryTracks 8 = .ok (.ireturn, 1))) sb_nil))))
set_option maxRecDepth 100000 in
theorem sb_X8_tryTracks_9 (l : Launch) : sm_SndB l RX8 "tryTracks" cX8_tryTracks 4 1 3 9 [oI 2, oK 1, oK 4, oCs p_X8_in f_X8_in 0 0 3, oEq0 30, oA 0, oK 2, oI 1, oAdd, oI 2, oI 3, oCv 8 30 p_X8_change f_X8_change 0 0 4, oGo 32] := sb_cons (sd_iload_n (by decide +kernel : decode cX8_tryTracks 9 = .ok (.iload_n 2, 1)) rfl) (sb_cons (sd_iconst (by decide +kernel : decode cX8_tryTracks 10 = .ok (.iconst 1, 1)) ⟨by decide, by decide⟩) (sb_cons (sd_iconst (by decide +kernel : decode cX8_tryTracks 11 = .ok (.iconst 4, 1)) ⟨by decide, by decide⟩) (sb_cons (sd_calls (n := 3) (met_X8_in l) (by decide) (by decide) wm_710 wm_708 wm_10 ⟨by decide +kernel, by decide +kernel, by decide +kernel⟩ wm_709 (by decide +kernel : decode cX8_tryTracks 12 = .ok (.invokestatic 74, 3))) (sb_cons (sd_eq0 (by decide +kernel : decode cX8_tryTracks 15 = .ok (.ifCond .eq 15, 3)) (by decide)) (sb_cons (sd_aload_n (by decide +kernel : decode cX8_tryTracks 18 = .ok (.aload_n 0, 1)) rfl) (sb_cons (sd_iconst (by decide +kernel : decode cX8_tryTracks 19 = .ok (.iconst 2, 1)) ⟨by decide, by decide⟩) (sb_cons (sd_iload_n (by decide +kernel : decode cX8_tryTracks 20 = .ok (.iload_n 1, 1)) rfl) (sb_cons (sd_iadd (by decide +kernel : decode cX8_tryTracks 21 = .ok (.iadd, 1))) (sb_cons (sd_iload_n (by decide +kernel : decode cX8_tryTracks 22 = .ok (.iload_n 2, 1)) rfl) (sb_cons (sd_iload_n (by decide +kernel : decode cX8_tryTracks 23 = .ok (.iload_n 3, 1)) rfl) (sb_cons (sd_callv (n := 3) (met_X8_change l) (by decide) (by decide) wm_731 wm_729 wm_10 ⟨by decide +kernel, by decide +kernel, by decide +kernel⟩ kl_8 wm_730 wm_1106 (by decide +kernel : decode cX8_tryTracks 24 = .ok (.invokevirtual 181, 3))) (sb_cons (sd_goto (x := 0) (by decide +kernel : decode cX8_tryTracks 27 = .ok (.goto 5, 3)) (by decide)) sb_nil))))))))))))
set_option maxRecDepth 100000 in
theorem sb_X8_tryTracks_30 (l : Launch) : sm_SndB l RX8 "tryTracks" cX8_tryTracks 4 1 3 30 [oK (-2), oGo 32] := sb_cons (sd_bipush (by decide +kernel : decode cX8_tryTracks 30 = .ok (.bipush (-2), 2)) ⟨by decide, by decide⟩ (by decide)) (sb_cons (sd_fall (x := 0)) sb_nil)
set_option maxRecDepth 100000 in
theorem sb_X8_tryTracks_32 (l : Launch) : sm_SndB l RX8 "tryTracks" cX8_tryTracks 4 1 3 32 [oIr] := sb_cons (sd_ireturn (x := 0) rfl (by decide +kernel : decode cX8_tryTracks 32 = .ok (.ireturn, 1))) sb_nil
theorem sn_X8_tryTracks (l : Launch) : sm_SndT l RX8 "tryTracks" cX8_tryTracks 4 1 3 tb_X8_tryTracks := st_cons (sb_X8_tryTracks_0 l) (st_cons (sb_X8_tryTracks_9 l) (st_cons (sb_X8_tryTracks_30 l) (st_cons (sb_X8_tryTracks_32 l) (st_nil))))
set_option maxRecDepth 100000 in
set_option maxHeartbeats 4000000 in
theorem ok_X8_tryTracks : sm_Ok tb_X8_tryTracks 4 0 0 p_X8_tryTracks f_X8_tryTracks := by
  intro as w hp ha hw
  match as, hp with
  | [.inr (.inl m), .inl s, .inl v, .inl b], hp =>
  refine ⟨Nat.le_of_ble_eq_true rfl, fun Z hZ => ?_⟩
  obtain ⟨rfl, hT, hH⟩ := hp
  refine hZ (fun _ => false) 16 0 _ _ _ _ _ ?_
  simp only [sm_run, sm_blk, sm_get, sm_ent, sm_ents, sm_wds, sm_wd, sm_nl, sm_pop, sm_back, sm_cases, oK, oLK, oL, oI, oA, oJ, oIs, oAs, oJs, oInc, oAdd, oSub, oMul, oDiv, oRem, oNeg, oAnd, oAndB, oOr, oShl, oI2c, oI2l, oL2i, oLand, oLor, oLshl, oLshr, oLushr, oLcmp, oDup, oDup2, oPop, oGo, oFg, oEq, oNe, oLt, oGe, oGt, oLe, oEq0, oNe0, oLt0, oGe0, oGt0, oLe0, oSw, oGi, oGr, oPi, oPz, oPr, oLen, oIl, oZl, oCl, oRl, oIst, oZst, oCst, oRst, oCopy, oNew, oNa, oNa2, oObj, oCs, oCv, oCi, oIr, oZr, oVr, Nat.beq, List.getElem?_cons_zero, List.getElem?_cons_succ, List.set_cons_zero, List.set_cons_succ, List.length_cons, List.length_nil, List.nil_append, List.cons_append, List.append_nil, List.replicate_succ, List.replicate_zero, Nat.reduceAdd, Nat.reduceSub, Nat.reduceLT, Nat.reduceLeDiff, Nat.reduceBEq, true_and, and_true, Nat.zero_add, Nat.add_zero, Nat.le_refl, Option.some.injEq, exists_eq_left', true_or, or_true, or_false, false_or, reduceCtorEq, Prod.mk.injEq, Sum.inl.injEq, and_self, false_and, and_false, not_true_eq_false, not_false_eq_true, false_implies, true_implies, sm_r, Int.add_zero, Int.zero_add, wI_wsI, wS_wsI, wR_wsI, wI_wCp, wS_wCp, wR_wCp, Nat.reduceEqDiff, reduceIte, sT_iff, sT_iffC, wIf_ne, ne_eq, Bool.false_or, Bool.true_or, Bool.or_false, Bool.or_true, Bool.or_self, tb_X8_tryTracks, p_X8_change, p_X8_in, p_X8_isStation, f_X8_change, f_X8_in, f_X8_isStation, p_X8_tryTracks, f_X8_tryTracks, sS_154 hT, hT, hH, b01]
  repeat' (first | exact True.intro | with_reducible assumption | with_reducible refine And.intro ?_ ?_ | intro _)
  all_goals first
    | omega
    | assumption
    | rfl
    | (split <;> omega)
    | grind
    | skip
theorem met_X8_tryTracks (l : Launch) : sm_Met l yX8_tryTracks cX8_tryTracks 4 (some .int) 3 0 0 p_X8_tryTracks f_X8_tryTracks := sm_met 1 (Or.inr (Or.inl ⟨rfl, rfl⟩)) (by decide +kernel) (sn_X8_tryTracks l) ok_X8_tryTracks
def p_X8_whyNotRun : List sm_V → sm_W → Prop
  | [.inl s, .inl v], w => True
  | _, _ => False
def f_X8_whyNotRun : sm_F
  | [.inl s, .inl v], w => (some (.inl (if 0 ≤ s ∧ s ≤ 6 then (if 1 ≤ v ∧ v ≤ 30 then 0 else -2) else -1)), w)
  | _, w => (none, w)
def tb_X8_whyNotRun : List (Nat × List sm_O) := [(0, [oI 0, oK 0, oK 6, oCs p_X8_in f_X8_in 0 0 3, oNe0 14, oK (-1), oGo 30]),
  (14, [oI 1, oK 1, oK 30, oCs p_X8_in f_X8_in 0 0 3, oEq0 28, oK 0, oGo 30]),
  (28, [oK (-2), oGo 30]),
  (30, [oIr])]
set_option maxRecDepth 100000 in
theorem sb_X8_whyNotRun_0 (l : Launch) : sm_SndB l RX8 "whyNotRun" cX8_whyNotRun 2 1 1 0 [oI 0, oK 0, oK 6, oCs p_X8_in f_X8_in 0 0 3, oNe0 14, oK (-1), oGo 30] := sb_cons (sd_iload_n (by decide +kernel : decode cX8_whyNotRun 0 = .ok (.iload_n 0, 1)) rfl) (sb_cons (sd_iconst (by decide +kernel : decode cX8_whyNotRun 1 = .ok (.iconst 0, 1)) ⟨by decide, by decide⟩) (sb_cons (sd_bipush (by decide +kernel : decode cX8_whyNotRun 2 = .ok (.bipush 6, 2)) ⟨by decide, by decide⟩ (by decide)) (sb_cons (sd_calls (n := 3) (met_X8_in l) (by decide) (by decide) wm_710 wm_708 wm_10 ⟨by decide +kernel, by decide +kernel, by decide +kernel⟩ wm_709 (by decide +kernel : decode cX8_whyNotRun 4 = .ok (.invokestatic 74, 3))) (sb_cons (sd_ne0 (by decide +kernel : decode cX8_whyNotRun 7 = .ok (.ifCond .ne 7, 3)) (by decide)) (sb_cons (sd_iconst (by decide +kernel : decode cX8_whyNotRun 10 = .ok (.iconst (-1), 1)) ⟨by decide, by decide⟩) (sb_cons (sd_goto (x := 0) (by decide +kernel : decode cX8_whyNotRun 11 = .ok (.goto 19, 3)) (by decide)) sb_nil))))))
set_option maxRecDepth 100000 in
theorem sb_X8_whyNotRun_14 (l : Launch) : sm_SndB l RX8 "whyNotRun" cX8_whyNotRun 2 1 1 14 [oI 1, oK 1, oK 30, oCs p_X8_in f_X8_in 0 0 3, oEq0 28, oK 0, oGo 30] := sb_cons (sd_iload_n (by decide +kernel : decode cX8_whyNotRun 14 = .ok (.iload_n 1, 1)) rfl) (sb_cons (sd_iconst (by decide +kernel : decode cX8_whyNotRun 15 = .ok (.iconst 1, 1)) ⟨by decide, by decide⟩) (sb_cons (sd_bipush (by decide +kernel : decode cX8_whyNotRun 16 = .ok (.bipush 30, 2)) ⟨by decide, by decide⟩ (by decide)) (sb_cons (sd_calls (n := 3) (met_X8_in l) (by decide) (by decide) wm_710 wm_708 wm_10 ⟨by decide +kernel, by decide +kernel, by decide +kernel⟩ wm_709 (by decide +kernel : decode cX8_whyNotRun 18 = .ok (.invokestatic 74, 3))) (sb_cons (sd_eq0 (by decide +kernel : decode cX8_whyNotRun 21 = .ok (.ifCond .eq 7, 3)) (by decide)) (sb_cons (sd_iconst (by decide +kernel : decode cX8_whyNotRun 24 = .ok (.iconst 0, 1)) ⟨by decide, by decide⟩) (sb_cons (sd_goto (x := 0) (by decide +kernel : decode cX8_whyNotRun 25 = .ok (.goto 5, 3)) (by decide)) sb_nil))))))
set_option maxRecDepth 100000 in
theorem sb_X8_whyNotRun_28 (l : Launch) : sm_SndB l RX8 "whyNotRun" cX8_whyNotRun 2 1 1 28 [oK (-2), oGo 30] := sb_cons (sd_bipush (by decide +kernel : decode cX8_whyNotRun 28 = .ok (.bipush (-2), 2)) ⟨by decide, by decide⟩ (by decide)) (sb_cons (sd_fall (x := 0)) sb_nil)
set_option maxRecDepth 100000 in
theorem sb_X8_whyNotRun_30 (l : Launch) : sm_SndB l RX8 "whyNotRun" cX8_whyNotRun 2 1 1 30 [oIr] := sb_cons (sd_ireturn (x := 0) rfl (by decide +kernel : decode cX8_whyNotRun 30 = .ok (.ireturn, 1))) sb_nil
theorem sn_X8_whyNotRun (l : Launch) : sm_SndT l RX8 "whyNotRun" cX8_whyNotRun 2 1 1 tb_X8_whyNotRun := st_cons (sb_X8_whyNotRun_0 l) (st_cons (sb_X8_whyNotRun_14 l) (st_cons (sb_X8_whyNotRun_28 l) (st_cons (sb_X8_whyNotRun_30 l) (st_nil))))
set_option maxRecDepth 100000 in
set_option maxHeartbeats 4000000 in
theorem ok_X8_whyNotRun : sm_Ok tb_X8_whyNotRun 2 0 0 p_X8_whyNotRun f_X8_whyNotRun := by
  intro as w hp ha hw
  match as, hp with
  | [.inl s, .inl v], hp =>
  refine ⟨Nat.le_of_ble_eq_true rfl, fun Z hZ => ?_⟩
  refine hZ (fun _ => false) 16 0 _ _ _ _ _ ?_
  simp only [sm_run, sm_blk, sm_get, sm_ent, sm_ents, sm_wds, sm_wd, sm_nl, sm_pop, sm_back, sm_cases, oK, oLK, oL, oI, oA, oJ, oIs, oAs, oJs, oInc, oAdd, oSub, oMul, oDiv, oRem, oNeg, oAnd, oAndB, oOr, oShl, oI2c, oI2l, oL2i, oLand, oLor, oLshl, oLshr, oLushr, oLcmp, oDup, oDup2, oPop, oGo, oFg, oEq, oNe, oLt, oGe, oGt, oLe, oEq0, oNe0, oLt0, oGe0, oGt0, oLe0, oSw, oGi, oGr, oPi, oPz, oPr, oLen, oIl, oZl, oCl, oRl, oIst, oZst, oCst, oRst, oCopy, oNew, oNa, oNa2, oObj, oCs, oCv, oCi, oIr, oZr, oVr, Nat.beq, List.getElem?_cons_zero, List.getElem?_cons_succ, List.set_cons_zero, List.set_cons_succ, List.length_cons, List.length_nil, List.nil_append, List.cons_append, List.append_nil, List.replicate_succ, List.replicate_zero, Nat.reduceAdd, Nat.reduceSub, Nat.reduceLT, Nat.reduceLeDiff, Nat.reduceBEq, true_and, and_true, Nat.zero_add, Nat.add_zero, Nat.le_refl, Option.some.injEq, exists_eq_left', true_or, or_true, or_false, false_or, reduceCtorEq, Prod.mk.injEq, Sum.inl.injEq, and_self, false_and, and_false, not_true_eq_false, not_false_eq_true, false_implies, true_implies, sm_r, Int.add_zero, Int.zero_add, wI_wsI, wS_wsI, wR_wsI, wI_wCp, wS_wCp, wR_wCp, Nat.reduceEqDiff, reduceIte, sT_iff, sT_iffC, wIf_ne, ne_eq, Bool.false_or, Bool.true_or, Bool.or_false, Bool.or_true, Bool.or_self, tb_X8_whyNotRun, p_X8_in, f_X8_in, p_X8_whyNotRun, f_X8_whyNotRun, b01]
  repeat' (first | exact True.intro | with_reducible assumption | with_reducible refine And.intro ?_ ?_ | intro _)
  all_goals first
    | omega
    | assumption
    | rfl
    | (split <;> omega)
    | grind
    | skip
theorem met_X8_whyNotRun (l : Launch) : sm_Met l yX8_whyNotRun cX8_whyNotRun 2 (some .int) 1 0 0 p_X8_whyNotRun f_X8_whyNotRun := sm_met 1 (Or.inr (Or.inl ⟨rfl, rfl⟩)) (by decide +kernel) (sn_X8_whyNotRun l) ok_X8_whyNotRun
def p_X8_tryRunning : List sm_V → sm_W → Prop
  | [.inr (.inl m), .inl s, .inl v, .inl b], w => m = 154 ∧ sT w ∧ mH w
  | _, _ => False
def f_X8_tryRunning : sm_F
  | [.inr (.inl m), .inl s, .inl v, .inl b], w => (some (.inl (if 0 ≤ s ∧ s ≤ 6 then (if 1 ≤ v ∧ v ≤ 30 then wI w 155 (10 + s) else -2) else -1)), (if 0 ≤ s ∧ s ≤ 6 then (if 1 ≤ v ∧ v ≤ 30 then wsI (mKf w b) 155 (10 + s) v else w) else w))
  | _, w => (none, w)
def tb_X8_tryRunning : List (Nat × List sm_O) := [(0, [oI 1, oI 2, oCs p_X8_whyNotRun f_X8_whyNotRun 0 0 2, oIs 4, oI 4, oGe0 17, oI 4, oGo 27]),
  (17, [oA 0, oK 10, oI 1, oAdd, oI 2, oI 3, oCv 8 30 p_X8_change f_X8_change 0 0 4, oGo 27]),
  (27, [oIr])]
set_option maxRecDepth 100000 in
theorem sb_X8_tryRunning_0 (l : Launch) : sm_SndB l RX8 "tryRunning" cX8_tryRunning 5 1 3 0 [oI 1, oI 2, oCs p_X8_whyNotRun f_X8_whyNotRun 0 0 2, oIs 4, oI 4, oGe0 17, oI 4, oGo 27] := sb_cons (sd_iload_n (by decide +kernel : decode cX8_tryRunning 0 = .ok (.iload_n 1, 1)) rfl) (sb_cons (sd_iload_n (by decide +kernel : decode cX8_tryRunning 1 = .ok (.iload_n 2, 1)) rfl) (sb_cons (sd_calls (n := 2) (met_X8_whyNotRun l) (by decide) (by decide) wm_748 wm_746 wm_10 ⟨by decide +kernel, by decide +kernel, by decide +kernel⟩ wm_747 (by decide +kernel : decode cX8_tryRunning 2 = .ok (.invokestatic 188, 3))) (sb_cons (sd_istore (by decide +kernel : decode cX8_tryRunning 5 = .ok (.istore 4, 2))) (sb_cons (sd_iload (by decide +kernel : decode cX8_tryRunning 7 = .ok (.iload 4, 2))) (sb_cons (sd_ge0 (by decide +kernel : decode cX8_tryRunning 9 = .ok (.ifCond .ge 8, 3)) (by decide)) (sb_cons (sd_iload (by decide +kernel : decode cX8_tryRunning 12 = .ok (.iload 4, 2))) (sb_cons (sd_goto (x := 0) (by decide +kernel : decode cX8_tryRunning 14 = .ok (.goto 13, 3)) (by decide)) sb_nil)))))))
set_option maxRecDepth 100000 in
theorem sb_X8_tryRunning_17 (l : Launch) : sm_SndB l RX8 "tryRunning" cX8_tryRunning 5 1 3 17 [oA 0, oK 10, oI 1, oAdd, oI 2, oI 3, oCv 8 30 p_X8_change f_X8_change 0 0 4, oGo 27] := sb_cons (sd_aload_n (by decide +kernel : decode cX8_tryRunning 17 = .ok (.aload_n 0, 1)) rfl) (sb_cons (sd_bipush (by decide +kernel : decode cX8_tryRunning 18 = .ok (.bipush 10, 2)) ⟨by decide, by decide⟩ (by decide)) (sb_cons (sd_iload_n (by decide +kernel : decode cX8_tryRunning 20 = .ok (.iload_n 1, 1)) rfl) (sb_cons (sd_iadd (by decide +kernel : decode cX8_tryRunning 21 = .ok (.iadd, 1))) (sb_cons (sd_iload_n (by decide +kernel : decode cX8_tryRunning 22 = .ok (.iload_n 2, 1)) rfl) (sb_cons (sd_iload_n (by decide +kernel : decode cX8_tryRunning 23 = .ok (.iload_n 3, 1)) rfl) (sb_cons (sd_callv (n := 3) (met_X8_change l) (by decide) (by decide) wm_731 wm_729 wm_10 ⟨by decide +kernel, by decide +kernel, by decide +kernel⟩ kl_8 wm_730 wm_1106 (by decide +kernel : decode cX8_tryRunning 24 = .ok (.invokevirtual 181, 3))) (sb_cons (sd_fall (x := 0)) sb_nil)))))))
set_option maxRecDepth 100000 in
theorem sb_X8_tryRunning_27 (l : Launch) : sm_SndB l RX8 "tryRunning" cX8_tryRunning 5 1 3 27 [oIr] := sb_cons (sd_ireturn (x := 0) rfl (by decide +kernel : decode cX8_tryRunning 27 = .ok (.ireturn, 1))) sb_nil
theorem sn_X8_tryRunning (l : Launch) : sm_SndT l RX8 "tryRunning" cX8_tryRunning 5 1 3 tb_X8_tryRunning := st_cons (sb_X8_tryRunning_0 l) (st_cons (sb_X8_tryRunning_17 l) (st_cons (sb_X8_tryRunning_27 l) (st_nil)))
set_option maxRecDepth 100000 in
set_option maxHeartbeats 4000000 in
theorem ok_X8_tryRunning : sm_Ok tb_X8_tryRunning 5 0 0 p_X8_tryRunning f_X8_tryRunning := by
  intro as w hp ha hw
  match as, hp with
  | [.inr (.inl m), .inl s, .inl v, .inl b], hp =>
  refine ⟨Nat.le_of_ble_eq_true rfl, fun Z hZ => ?_⟩
  obtain ⟨rfl, hT, hH⟩ := hp
  refine hZ (fun _ => false) 16 0 _ _ _ _ _ ?_
  simp only [sm_run, sm_blk, sm_get, sm_ent, sm_ents, sm_wds, sm_wd, sm_nl, sm_pop, sm_back, sm_cases, oK, oLK, oL, oI, oA, oJ, oIs, oAs, oJs, oInc, oAdd, oSub, oMul, oDiv, oRem, oNeg, oAnd, oAndB, oOr, oShl, oI2c, oI2l, oL2i, oLand, oLor, oLshl, oLshr, oLushr, oLcmp, oDup, oDup2, oPop, oGo, oFg, oEq, oNe, oLt, oGe, oGt, oLe, oEq0, oNe0, oLt0, oGe0, oGt0, oLe0, oSw, oGi, oGr, oPi, oPz, oPr, oLen, oIl, oZl, oCl, oRl, oIst, oZst, oCst, oRst, oCopy, oNew, oNa, oNa2, oObj, oCs, oCv, oCi, oIr, oZr, oVr, Nat.beq, List.getElem?_cons_zero, List.getElem?_cons_succ, List.set_cons_zero, List.set_cons_succ, List.length_cons, List.length_nil, List.nil_append, List.cons_append, List.append_nil, List.replicate_succ, List.replicate_zero, Nat.reduceAdd, Nat.reduceSub, Nat.reduceLT, Nat.reduceLeDiff, Nat.reduceBEq, true_and, and_true, Nat.zero_add, Nat.add_zero, Nat.le_refl, Option.some.injEq, exists_eq_left', true_or, or_true, or_false, false_or, reduceCtorEq, Prod.mk.injEq, Sum.inl.injEq, and_self, false_and, and_false, not_true_eq_false, not_false_eq_true, false_implies, true_implies, sm_r, Int.add_zero, Int.zero_add, wI_wsI, wS_wsI, wR_wsI, wI_wCp, wS_wCp, wR_wCp, Nat.reduceEqDiff, reduceIte, sT_iff, sT_iffC, wIf_ne, ne_eq, Bool.false_or, Bool.true_or, Bool.or_false, Bool.or_true, Bool.or_self, tb_X8_tryRunning, p_X8_change, p_X8_whyNotRun, f_X8_change, f_X8_whyNotRun, p_X8_tryRunning, f_X8_tryRunning, sS_154 hT, hT, hH]
  repeat' (first | exact True.intro | with_reducible assumption | with_reducible refine And.intro ?_ ?_ | intro _)
  all_goals first
    | omega
    | assumption
    | rfl
    | (split <;> omega)
    | grind
    | skip
theorem met_X8_tryRunning (l : Launch) : sm_Met l yX8_tryRunning cX8_tryRunning 5 (some .int) 3 0 0 p_X8_tryRunning f_X8_tryRunning := sm_met 1 (Or.inr (Or.inl ⟨rfl, rfl⟩)) (by decide +kernel) (sn_X8_tryRunning l) ok_X8_tryRunning
def mNewSh (w : sm_W) (a b c d e : Int) : sm_W := wsI (wsI (wsI (wsI (wsI (wsI w 155 (17 + 5 * wI w 155 1) a) 155 (17 + 5 * wI w 155 1 + 1) b) 155 (17 + 5 * wI w 155 1 + 2) c) 155 (17 + 5 * wI w 155 1 + 3) d) 155 (17 + 5 * wI w 155 1 + 4) e) 155 1 (wI w 155 1 + 1)
def mShOk (a b c d e : Int) : Int := if 0 ≤ a ∧ a ≤ 7 ∧ 0 ≤ b ∧ b ≤ 7 then (if a = b then -2 else (if (0 ≤ c ∧ c ≤ 300) ∧ (0 ≤ d ∧ d ≤ 20) ∧ (0 ≤ e ∧ e ≤ 9) then 0 else -2)) else -1
def p_X8_tryShuttle : List sm_V → sm_W → Prop
  | [.inr (.inl m), .inl a, .inl b, .inl c, .inl d, .inl e, .inl k], w => m = 154 ∧ mOK w ∧ mH w
  | _, _ => False
def f_X8_tryShuttle : sm_F
  | [.inr (.inl m), .inl a, .inl b, .inl c, .inl d, .inl e, .inl k], w => (some (.inl (if mShOk a b c d e < 0 then mShOk a b c d e else (if wI w 155 1 = 8 then -4 else wI w 155 1))), (if mShOk a b c d e < 0 then w else (if wI w 155 1 = 8 then w else mNewSh (mKf w k) a b c d e)))
  | _, w => (none, w)
def tb_X8_tryShuttle : List (Nat × List sm_O) := [(0, [oI 1, oCs p_X8_isStation f_X8_isStation 0 0 1, oEq0 14, oI 2, oCs p_X8_isStation f_X8_isStation 0 0 1, oNe0 16, oGo 14]),
  (14, [oK (-1), oIr]),
  (16, [oI 1, oI 2, oEq 54, oI 3, oK 0, oK 300, oCs p_X8_in f_X8_in 0 0 3, oEq0 54, oI 4, oK 0, oK 20, oCs p_X8_in f_X8_in 0 0 3, oEq0 54, oI 5, oK 0, oK 9, oCs p_X8_in f_X8_in 0 0 3, oNe0 57, oGo 54]),
  (54, [oK (-2), oIr]),
  (57, [oA 0, oGr 8 30 0, oK 1, oIl, oK 8, oNe 71, oK (-4), oIr]),
  (71, [oA 0, oI 6, oCv 8 30 p_X8_keepIf f_X8_keepIf 0 0 2, oK 17, oK 5, oA 0, oGr 8 30 0, oK 1, oIl, oMul, oAdd, oIs 7, oA 0, oGr 8 30 0, oI 7, oK 0, oAdd, oI 1, oIst, oA 0, oGr 8 30 0, oI 7, oK 1, oAdd, oI 2, oIst, oA 0, oGr 8 30 0, oI 7, oK 2, oAdd, oI 3, oIst, oA 0, oGr 8 30 0, oI 7, oK 3, oAdd, oI 4, oIst, oA 0, oGr 8 30 0, oI 7, oK 4, oAdd, oI 5, oIst, oA 0, oGr 8 30 0, oK 1, oDup2, oIl, oK 1, oAdd, oIst, oA 0, oGr 8 30 0, oK 1, oIl, oK 1, oSub, oIr])]
set_option maxRecDepth 100000 in
theorem sb_X8_tryShuttle_0 (l : Launch) : sm_SndB l RX8 "tryShuttle" cX8_tryShuttle 8 1 2 0 [oI 1, oCs p_X8_isStation f_X8_isStation 0 0 1, oEq0 14, oI 2, oCs p_X8_isStation f_X8_isStation 0 0 1, oNe0 16, oGo 14] := sb_cons (sd_iload_n (by decide +kernel : decode cX8_tryShuttle 0 = .ok (.iload_n 1, 1)) rfl) (sb_cons (sd_calls (n := 1) (met_X8_isStation l) (by decide) (by decide) wm_727 wm_725 wm_10 ⟨by decide +kernel, by decide +kernel, by decide +kernel⟩ wm_726 (by decide +kernel : decode cX8_tryShuttle 1 = .ok (.invokestatic 178, 3))) (sb_cons (sd_eq0 (by decide +kernel : decode cX8_tryShuttle 4 = .ok (.ifCond .eq 10, 3)) (by decide)) (sb_cons (sd_iload_n (by decide +kernel : decode cX8_tryShuttle 7 = .ok (.iload_n 2, 1)) rfl) (sb_cons (sd_calls (n := 1) (met_X8_isStation l) (by decide) (by decide) wm_727 wm_725 wm_10 ⟨by decide +kernel, by decide +kernel, by decide +kernel⟩ wm_726 (by decide +kernel : decode cX8_tryShuttle 8 = .ok (.invokestatic 178, 3))) (sb_cons (sd_ne0 (by decide +kernel : decode cX8_tryShuttle 11 = .ok (.ifCond .ne 5, 3)) (by decide)) (sb_cons (sd_fall (x := 0)) sb_nil))))))
set_option maxRecDepth 100000 in
theorem sb_X8_tryShuttle_14 (l : Launch) : sm_SndB l RX8 "tryShuttle" cX8_tryShuttle 8 1 2 14 [oK (-1), oIr] := sb_cons (sd_iconst (by decide +kernel : decode cX8_tryShuttle 14 = .ok (.iconst (-1), 1)) ⟨by decide, by decide⟩) (sb_cons (sd_ireturn (x := 0) rfl (by decide +kernel : decode cX8_tryShuttle 15 = .ok (.ireturn, 1))) sb_nil)
set_option maxRecDepth 100000 in
theorem sb_X8_tryShuttle_16 (l : Launch) : sm_SndB l RX8 "tryShuttle" cX8_tryShuttle 8 1 2 16 [oI 1, oI 2, oEq 54, oI 3, oK 0, oK 300, oCs p_X8_in f_X8_in 0 0 3, oEq0 54, oI 4, oK 0, oK 20, oCs p_X8_in f_X8_in 0 0 3, oEq0 54, oI 5, oK 0, oK 9, oCs p_X8_in f_X8_in 0 0 3, oNe0 57, oGo 54] := sb_cons (sd_iload_n (by decide +kernel : decode cX8_tryShuttle 16 = .ok (.iload_n 1, 1)) rfl) (sb_cons (sd_iload_n (by decide +kernel : decode cX8_tryShuttle 17 = .ok (.iload_n 2, 1)) rfl) (sb_cons (sd_eq (by decide +kernel : decode cX8_tryShuttle 18 = .ok (.if_icmp .eq 36, 3)) (by decide)) (sb_cons (sd_iload_n (by decide +kernel : decode cX8_tryShuttle 21 = .ok (.iload_n 3, 1)) rfl) (sb_cons (sd_iconst (by decide +kernel : decode cX8_tryShuttle 22 = .ok (.iconst 0, 1)) ⟨by decide, by decide⟩) (sb_cons (sd_sipush (by decide +kernel : decode cX8_tryShuttle 23 = .ok (.sipush 300, 3)) ⟨by decide, by decide⟩ (by decide)) (sb_cons (sd_calls (n := 3) (met_X8_in l) (by decide) (by decide) wm_710 wm_708 wm_10 ⟨by decide +kernel, by decide +kernel, by decide +kernel⟩ wm_709 (by decide +kernel : decode cX8_tryShuttle 26 = .ok (.invokestatic 74, 3))) (sb_cons (sd_eq0 (by decide +kernel : decode cX8_tryShuttle 29 = .ok (.ifCond .eq 25, 3)) (by decide)) (sb_cons (sd_iload (by decide +kernel : decode cX8_tryShuttle 32 = .ok (.iload 4, 2))) (sb_cons (sd_iconst (by decide +kernel : decode cX8_tryShuttle 34 = .ok (.iconst 0, 1)) ⟨by decide, by decide⟩) (sb_cons (sd_bipush (by decide +kernel : decode cX8_tryShuttle 35 = .ok (.bipush 20, 2)) ⟨by decide, by decide⟩ (by decide)) (sb_cons (sd_calls (n := 3) (met_X8_in l) (by decide) (by decide) wm_710 wm_708 wm_10 ⟨by decide +kernel, by decide +kernel, by decide +kernel⟩ wm_709 (by decide +kernel : decode cX8_tryShuttle 37 = .ok (.invokestatic 74, 3))) (sb_cons (sd_eq0 (by decide +kernel : decode cX8_tryShuttle 40 = .ok (.ifCond .eq 14, 3)) (by decide)) (sb_cons (sd_iload (by decide +kernel : decode cX8_tryShuttle 43 = .ok (.iload 5, 2))) (sb_cons (sd_iconst (by decide +kernel : decode cX8_tryShuttle 45 = .ok (.iconst 0, 1)) ⟨by decide, by decide⟩) (sb_cons (sd_bipush (by decide +kernel : decode cX8_tryShuttle 46 = .ok (.bipush 9, 2)) ⟨by decide, by decide⟩ (by decide)) (sb_cons (sd_calls (n := 3) (met_X8_in l) (by decide) (by decide) wm_710 wm_708 wm_10 ⟨by decide +kernel, by decide +kernel, by decide +kernel⟩ wm_709 (by decide +kernel : decode cX8_tryShuttle 48 = .ok (.invokestatic 74, 3))) (sb_cons (sd_ne0 (by decide +kernel : decode cX8_tryShuttle 51 = .ok (.ifCond .ne 6, 3)) (by decide)) (sb_cons (sd_fall (x := 0)) sb_nil))))))))))))))))))
set_option maxRecDepth 100000 in
theorem sb_X8_tryShuttle_54 (l : Launch) : sm_SndB l RX8 "tryShuttle" cX8_tryShuttle 8 1 2 54 [oK (-2), oIr] := sb_cons (sd_bipush (by decide +kernel : decode cX8_tryShuttle 54 = .ok (.bipush (-2), 2)) ⟨by decide, by decide⟩ (by decide)) (sb_cons (sd_ireturn (x := 0) rfl (by decide +kernel : decode cX8_tryShuttle 56 = .ok (.ireturn, 1))) sb_nil)
set_option maxRecDepth 100000 in
theorem sb_X8_tryShuttle_57 (l : Launch) : sm_SndB l RX8 "tryShuttle" cX8_tryShuttle 8 1 2 57 [oA 0, oGr 8 30 0, oK 1, oIl, oK 8, oNe 71, oK (-4), oIr] := sb_cons (sd_aload_n (by decide +kernel : decode cX8_tryShuttle 57 = .ok (.aload_n 0, 1)) rfl) (sb_cons (sd_getr (k := 0) kl_8 (by decide) rfl wm_673 (by decide +kernel : decode cX8_tryShuttle 58 = .ok (.getfield 7, 3))) (sb_cons (sd_iconst (by decide +kernel : decode cX8_tryShuttle 61 = .ok (.iconst 1, 1)) ⟨by decide, by decide⟩) (sb_cons (sd_iaload (by decide +kernel : decode cX8_tryShuttle 62 = .ok (.iaload, 1))) (sb_cons (sd_bipush (by decide +kernel : decode cX8_tryShuttle 63 = .ok (.bipush 8, 2)) ⟨by decide, by decide⟩ (by decide)) (sb_cons (sd_ne (by decide +kernel : decode cX8_tryShuttle 65 = .ok (.if_icmp .ne 6, 3)) (by decide)) (sb_cons (sd_bipush (by decide +kernel : decode cX8_tryShuttle 68 = .ok (.bipush (-4), 2)) ⟨by decide, by decide⟩ (by decide)) (sb_cons (sd_ireturn (x := 0) rfl (by decide +kernel : decode cX8_tryShuttle 70 = .ok (.ireturn, 1))) sb_nil)))))))
set_option maxRecDepth 100000 in
theorem sb_X8_tryShuttle_71 (l : Launch) : sm_SndB l RX8 "tryShuttle" cX8_tryShuttle 8 1 2 71 [oA 0, oI 6, oCv 8 30 p_X8_keepIf f_X8_keepIf 0 0 2, oK 17, oK 5, oA 0, oGr 8 30 0, oK 1, oIl, oMul, oAdd, oIs 7, oA 0, oGr 8 30 0, oI 7, oK 0, oAdd, oI 1, oIst, oA 0, oGr 8 30 0, oI 7, oK 1, oAdd, oI 2, oIst, oA 0, oGr 8 30 0, oI 7, oK 2, oAdd, oI 3, oIst, oA 0, oGr 8 30 0, oI 7, oK 3, oAdd, oI 4, oIst, oA 0, oGr 8 30 0, oI 7, oK 4, oAdd, oI 5, oIst, oA 0, oGr 8 30 0, oK 1, oDup2, oIl, oK 1, oAdd, oIst, oA 0, oGr 8 30 0, oK 1, oIl, oK 1, oSub, oIr] := sb_cons (sd_aload_n (by decide +kernel : decode cX8_tryShuttle 71 = .ok (.aload_n 0, 1)) rfl) (sb_cons (sd_iload (by decide +kernel : decode cX8_tryShuttle 72 = .ok (.iload 6, 2))) (sb_cons (sd_callv (n := 1) (met_X8_keepIf l) (by decide) (by decide) wm_735 wm_733 wm_10 ⟨by decide +kernel, by decide +kernel, by decide +kernel⟩ kl_8 wm_734 wm_1107 (by decide +kernel : decode cX8_tryShuttle 74 = .ok (.invokevirtual 174, 3))) (sb_cons (sd_bipush (by decide +kernel : decode cX8_tryShuttle 77 = .ok (.bipush 17, 2)) ⟨by decide, by decide⟩ (by decide)) (sb_cons (sd_iconst (by decide +kernel : decode cX8_tryShuttle 79 = .ok (.iconst 5, 1)) ⟨by decide, by decide⟩) (sb_cons (sd_aload_n (by decide +kernel : decode cX8_tryShuttle 80 = .ok (.aload_n 0, 1)) rfl) (sb_cons (sd_getr (k := 0) kl_8 (by decide) rfl wm_673 (by decide +kernel : decode cX8_tryShuttle 81 = .ok (.getfield 7, 3))) (sb_cons (sd_iconst (by decide +kernel : decode cX8_tryShuttle 84 = .ok (.iconst 1, 1)) ⟨by decide, by decide⟩) (sb_cons (sd_iaload (by decide +kernel : decode cX8_tryShuttle 85 = .ok (.iaload, 1))) (sb_cons (sd_imul (by decide +kernel : decode cX8_tryShuttle 86 = .ok (.imul, 1))) (sb_cons (sd_iadd (by decide +kernel : decode cX8_tryShuttle 87 = .ok (.iadd, 1))) (sb_cons (sd_istore (by decide +kernel : decode cX8_tryShuttle 88 = .ok (.istore 7, 2))) (sb_cons (sd_aload_n (by decide +kernel : decode cX8_tryShuttle 90 = .ok (.aload_n 0, 1)) rfl) (sb_cons (sd_getr (k := 0) kl_8 (by decide) rfl wm_673 (by decide +kernel : decode cX8_tryShuttle 91 = .ok (.getfield 7, 3))) (sb_cons (sd_iload (by decide +kernel : decode cX8_tryShuttle 94 = .ok (.iload 7, 2))) (sb_cons (sd_iconst (by decide +kernel : decode cX8_tryShuttle 96 = .ok (.iconst 0, 1)) ⟨by decide, by decide⟩) (sb_cons (sd_iadd (by decide +kernel : decode cX8_tryShuttle 97 = .ok (.iadd, 1))) (sb_cons (sd_iload_n (by decide +kernel : decode cX8_tryShuttle 98 = .ok (.iload_n 1, 1)) rfl) (sb_cons (sd_iastore (by decide +kernel : decode cX8_tryShuttle 99 = .ok (.iastore, 1))) (sb_cons (sd_aload_n (by decide +kernel : decode cX8_tryShuttle 100 = .ok (.aload_n 0, 1)) rfl) (sb_cons (sd_getr (k := 0) kl_8 (by decide) rfl wm_673 (by decide +kernel : decode cX8_tryShuttle 101 = .ok (.getfield 7, 3))) (sb_cons (sd_iload (by decide +kernel : decode cX8_tryShuttle 104 = .ok (.iload 7, 2))) (sb_cons (sd_iconst (by decide +kernel : decode cX8_tryShuttle 106 = .ok (.iconst 1, 1)) ⟨by decide, by decide⟩) (sb_cons (sd_iadd (by decide +kernel : decode cX8_tryShuttle 107 = .ok (.iadd, 1))) (sb_cons (sd_iload_n (by decide +kernel : decode cX8_tryShuttle 108 = .ok (.iload_n 2, 1)) rfl) (sb_cons (sd_iastore (by decide +kernel : decode cX8_tryShuttle 109 = .ok (.iastore, 1))) (sb_cons (sd_aload_n (by decide +kernel : decode cX8_tryShuttle 110 = .ok (.aload_n 0, 1)) rfl) (sb_cons (sd_getr (k := 0) kl_8 (by decide) rfl wm_673 (by decide +kernel : decode cX8_tryShuttle 111 = .ok (.getfield 7, 3))) (sb_cons (sd_iload (by decide +kernel : decode cX8_tryShuttle 114 = .ok (.iload 7, 2))) (sb_cons (sd_iconst (by decide +kernel : decode cX8_tryShuttle 116 = .ok (.iconst 2, 1)) ⟨by decide, by decide⟩) (sb_cons (sd_iadd (by decide +kernel : decode cX8_tryShuttle 117 = .ok (.iadd, 1))) (sb_cons (sd_iload_n (by decide +kernel : decode cX8_tryShuttle 118 = .ok (.iload_n 3, 1)) rfl) (sb_cons (sd_iastore (by decide +kernel : decode cX8_tryShuttle 119 = .ok (.iastore, 1))) (sb_cons (sd_aload_n (by decide +kernel : decode cX8_tryShuttle 120 = .ok (.aload_n 0, 1)) rfl) (sb_cons (sd_getr (k := 0) kl_8 (by decide) rfl wm_673 (by decide +kernel : decode cX8_tryShuttle 121 = .ok (.getfield 7, 3))) (sb_cons (sd_iload (by decide +kernel : decode cX8_tryShuttle 124 = .ok (.iload 7, 2))) (sb_cons (sd_iconst (by decide +kernel : decode cX8_tryShuttle 126 = .ok (.iconst 3, 1)) ⟨by decide, by decide⟩) (sb_cons (sd_iadd (by decide +kernel : decode cX8_tryShuttle 127 = .ok (.iadd, 1))) (sb_cons (sd_iload (by decide +kernel : decode cX8_tryShuttle 128 = .ok (.iload 4, 2))) (sb_cons (sd_iastore (by decide +kernel : decode cX8_tryShuttle 130 = .ok (.iastore, 1))) (sb_cons (sd_aload_n (by decide +kernel : decode cX8_tryShuttle 131 = .ok (.aload_n 0, 1)) rfl) (sb_cons (sd_getr (k := 0) kl_8 (by decide) rfl wm_673 (by decide +kernel : decode cX8_tryShuttle 132 = .ok (.getfield 7, 3))) (sb_cons (sd_iload (by decide +kernel : decode cX8_tryShuttle 135 = .ok (.iload 7, 2))) (sb_cons (sd_iconst (by decide +kernel : decode cX8_tryShuttle 137 = .ok (.iconst 4, 1)) ⟨by decide, by decide⟩) (sb_cons (sd_iadd (by decide +kernel : decode cX8_tryShuttle 138 = .ok (.iadd, 1))) (sb_cons (sd_iload (by decide +kernel : decode cX8_tryShuttle 139 = .ok (.iload 5, 2))) (sb_cons (sd_iastore (by decide +kernel : decode cX8_tryShuttle 141 = .ok (.iastore, 1))) (sb_cons (sd_aload_n (by decide +kernel : decode cX8_tryShuttle 142 = .ok (.aload_n 0, 1)) rfl) (sb_cons (sd_getr (k := 0) kl_8 (by decide) rfl wm_673 (by decide +kernel : decode cX8_tryShuttle 143 = .ok (.getfield 7, 3))) (sb_cons (sd_iconst (by decide +kernel : decode cX8_tryShuttle 146 = .ok (.iconst 1, 1)) ⟨by decide, by decide⟩) (sb_cons (sd_dup2 (by decide +kernel : decode cX8_tryShuttle 147 = .ok (.dup2, 1))) (sb_cons (sd_iaload (by decide +kernel : decode cX8_tryShuttle 148 = .ok (.iaload, 1))) (sb_cons (sd_iconst (by decide +kernel : decode cX8_tryShuttle 149 = .ok (.iconst 1, 1)) ⟨by decide, by decide⟩) (sb_cons (sd_iadd (by decide +kernel : decode cX8_tryShuttle 150 = .ok (.iadd, 1))) (sb_cons (sd_iastore (by decide +kernel : decode cX8_tryShuttle 151 = .ok (.iastore, 1))) (sb_cons (sd_aload_n (by decide +kernel : decode cX8_tryShuttle 152 = .ok (.aload_n 0, 1)) rfl) (sb_cons (sd_getr (k := 0) kl_8 (by decide) rfl wm_673 (by decide +kernel : decode cX8_tryShuttle 153 = .ok (.getfield 7, 3))) (sb_cons (sd_iconst (by decide +kernel : decode cX8_tryShuttle 156 = .ok (.iconst 1, 1)) ⟨by decide, by decide⟩) (sb_cons (sd_iaload (by decide +kernel : decode cX8_tryShuttle 157 = .ok (.iaload, 1))) (sb_cons (sd_iconst (by decide +kernel : decode cX8_tryShuttle 158 = .ok (.iconst 1, 1)) ⟨by decide, by decide⟩) (sb_cons (sd_isub (by decide +kernel : decode cX8_tryShuttle 159 = .ok (.isub, 1))) (sb_cons (sd_ireturn (x := 0) rfl (by decide +kernel : decode cX8_tryShuttle 160 = .ok (.ireturn, 1))) sb_nil)))))))))))))))))))))))))))))))))))))))))))))))))))))))))))))
theorem sn_X8_tryShuttle (l : Launch) : sm_SndT l RX8 "tryShuttle" cX8_tryShuttle 8 1 2 tb_X8_tryShuttle := st_cons (sb_X8_tryShuttle_0 l) (st_cons (sb_X8_tryShuttle_14 l) (st_cons (sb_X8_tryShuttle_16 l) (st_cons (sb_X8_tryShuttle_54 l) (st_cons (sb_X8_tryShuttle_57 l) (st_cons (sb_X8_tryShuttle_71 l) (st_nil))))))
set_option maxRecDepth 100000 in
set_option maxHeartbeats 4000000 in
theorem ok_X8_tryShuttle : sm_Ok tb_X8_tryShuttle 8 0 0 p_X8_tryShuttle f_X8_tryShuttle := by
  intro as w hp ha hw
  match as, hp with
  | [.inr (.inl m), .inl a, .inl b, .inl c, .inl d, .inl e, .inl k], hp =>
  refine ⟨Nat.le_of_ble_eq_true rfl, fun Z hZ => ?_⟩
  obtain ⟨rfl, ⟨hT, hv⟩, hH⟩ := hp
  have hm := vOK_many hv
  have hT2 := (mKf_keep (w := w) k).2 hT
  have ha := mKf_at w k
  have hw1 : wI (mKf w k) 155 1 = wI w 155 1 := by rw [ha]
  by_cases hok : mShOk a b c d e < 0
  · skip
    refine hZ (fun _ => false) 16 0 _ _ _ _ _ ?_
    simp only [sm_run, sm_blk, sm_get, sm_ent, sm_ents, sm_wds, sm_wd, sm_nl, sm_pop, sm_back, sm_cases, oK, oLK, oL, oI, oA, oJ, oIs, oAs, oJs, oInc, oAdd, oSub, oMul, oDiv, oRem, oNeg, oAnd, oAndB, oOr, oShl, oI2c, oI2l, oL2i, oLand, oLor, oLshl, oLshr, oLushr, oLcmp, oDup, oDup2, oPop, oGo, oFg, oEq, oNe, oLt, oGe, oGt, oLe, oEq0, oNe0, oLt0, oGe0, oGt0, oLe0, oSw, oGi, oGr, oPi, oPz, oPr, oLen, oIl, oZl, oCl, oRl, oIst, oZst, oCst, oRst, oCopy, oNew, oNa, oNa2, oObj, oCs, oCv, oCi, oIr, oZr, oVr, Nat.beq, List.getElem?_cons_zero, List.getElem?_cons_succ, List.set_cons_zero, List.set_cons_succ, List.length_cons, List.length_nil, List.nil_append, List.cons_append, List.append_nil, List.replicate_succ, List.replicate_zero, Nat.reduceAdd, Nat.reduceSub, Nat.reduceLT, Nat.reduceLeDiff, Nat.reduceBEq, true_and, and_true, Nat.zero_add, Nat.add_zero, Nat.le_refl, Option.some.injEq, exists_eq_left', true_or, or_true, or_false, false_or, reduceCtorEq, Prod.mk.injEq, Sum.inl.injEq, and_self, false_and, and_false, not_true_eq_false, not_false_eq_true, false_implies, true_implies, sm_r, Int.add_zero, Int.zero_add, wI_wsI, wS_wsI, wR_wsI, wI_wCp, wS_wCp, wR_wCp, Nat.reduceEqDiff, reduceIte, sT_iff, sT_iffC, wIf_ne, ne_eq, Bool.false_or, Bool.true_or, Bool.or_false, Bool.or_true, Bool.or_self, tb_X8_tryShuttle, p_X8_in, p_X8_isStation, p_X8_keepIf, f_X8_in, f_X8_isStation, f_X8_keepIf, p_X8_tryShuttle, f_X8_tryShuttle, sS_154 hT, sR_154_0 hT, sS_155 hT, hT, hH, b01, if_pos hok]
    repeat' (first | exact True.intro | with_reducible assumption | with_reducible refine And.intro ?_ ?_ | intro _)
    all_goals first
      | omega
      | assumption
      | rfl
      | (split <;> omega)
      | grind [mShOk]
      | skip
  · have hx := hok
    unfold mShOk at hx
    by_cases h8 : wI w 155 1 = 8
    · skip
      refine hZ (fun _ => false) 16 0 _ _ _ _ _ ?_
      simp only [sm_run, sm_blk, sm_get, sm_ent, sm_ents, sm_wds, sm_wd, sm_nl, sm_pop, sm_back, sm_cases, oK, oLK, oL, oI, oA, oJ, oIs, oAs, oJs, oInc, oAdd, oSub, oMul, oDiv, oRem, oNeg, oAnd, oAndB, oOr, oShl, oI2c, oI2l, oL2i, oLand, oLor, oLshl, oLshr, oLushr, oLcmp, oDup, oDup2, oPop, oGo, oFg, oEq, oNe, oLt, oGe, oGt, oLe, oEq0, oNe0, oLt0, oGe0, oGt0, oLe0, oSw, oGi, oGr, oPi, oPz, oPr, oLen, oIl, oZl, oCl, oRl, oIst, oZst, oCst, oRst, oCopy, oNew, oNa, oNa2, oObj, oCs, oCv, oCi, oIr, oZr, oVr, Nat.beq, List.getElem?_cons_zero, List.getElem?_cons_succ, List.set_cons_zero, List.set_cons_succ, List.length_cons, List.length_nil, List.nil_append, List.cons_append, List.append_nil, List.replicate_succ, List.replicate_zero, Nat.reduceAdd, Nat.reduceSub, Nat.reduceLT, Nat.reduceLeDiff, Nat.reduceBEq, true_and, and_true, Nat.zero_add, Nat.add_zero, Nat.le_refl, Option.some.injEq, exists_eq_left', true_or, or_true, or_false, false_or, reduceCtorEq, Prod.mk.injEq, Sum.inl.injEq, and_self, false_and, and_false, not_true_eq_false, not_false_eq_true, false_implies, true_implies, sm_r, Int.add_zero, Int.zero_add, wI_wsI, wS_wsI, wR_wsI, wI_wCp, wS_wCp, wR_wCp, Nat.reduceEqDiff, reduceIte, sT_iff, sT_iffC, wIf_ne, ne_eq, Bool.false_or, Bool.true_or, Bool.or_false, Bool.or_true, Bool.or_self, tb_X8_tryShuttle, p_X8_in, p_X8_isStation, p_X8_keepIf, f_X8_in, f_X8_isStation, f_X8_keepIf, p_X8_tryShuttle, f_X8_tryShuttle, sS_154 hT, sR_154_0 hT, sS_155 hT, hT, hH, b01, if_neg hok, if_pos h8]
      repeat' (first | exact True.intro | with_reducible assumption | with_reducible refine And.intro ?_ ?_ | intro _)
      all_goals first
        | omega
        | assumption
        | rfl
        | (split <;> omega)
        | grind [mShOk]
        | skip
    · skip
      refine hZ (fun _ => false) 16 0 _ _ _ _ _ ?_
      simp only [sm_run, sm_blk, sm_get, sm_ent, sm_ents, sm_wds, sm_wd, sm_nl, sm_pop, sm_back, sm_cases, oK, oLK, oL, oI, oA, oJ, oIs, oAs, oJs, oInc, oAdd, oSub, oMul, oDiv, oRem, oNeg, oAnd, oAndB, oOr, oShl, oI2c, oI2l, oL2i, oLand, oLor, oLshl, oLshr, oLushr, oLcmp, oDup, oDup2, oPop, oGo, oFg, oEq, oNe, oLt, oGe, oGt, oLe, oEq0, oNe0, oLt0, oGe0, oGt0, oLe0, oSw, oGi, oGr, oPi, oPz, oPr, oLen, oIl, oZl, oCl, oRl, oIst, oZst, oCst, oRst, oCopy, oNew, oNa, oNa2, oObj, oCs, oCv, oCi, oIr, oZr, oVr, Nat.beq, List.getElem?_cons_zero, List.getElem?_cons_succ, List.set_cons_zero, List.set_cons_succ, List.length_cons, List.length_nil, List.nil_append, List.cons_append, List.append_nil, List.replicate_succ, List.replicate_zero, Nat.reduceAdd, Nat.reduceSub, Nat.reduceLT, Nat.reduceLeDiff, Nat.reduceBEq, true_and, and_true, Nat.zero_add, Nat.add_zero, Nat.le_refl, Option.some.injEq, exists_eq_left', true_or, or_true, or_false, false_or, reduceCtorEq, Prod.mk.injEq, Sum.inl.injEq, and_self, false_and, and_false, not_true_eq_false, not_false_eq_true, false_implies, true_implies, sm_r, Int.add_zero, Int.zero_add, wI_wsI, wS_wsI, wR_wsI, wI_wCp, wS_wCp, wR_wCp, Nat.reduceEqDiff, reduceIte, sT_iff, sT_iffC, wIf_ne, ne_eq, Bool.false_or, Bool.true_or, Bool.or_false, Bool.or_true, Bool.or_self, tb_X8_tryShuttle, p_X8_in, p_X8_isStation, p_X8_keepIf, f_X8_in, f_X8_isStation, f_X8_keepIf, p_X8_tryShuttle, f_X8_tryShuttle, sS_154 hT, sR_154_0 hT, sS_155 hT, sS_154 hT2, sR_154_0 hT2, sS_155 hT2, hT, hH, b01, ha, if_neg hok, if_neg h8, mNewSh]
      repeat' (first | exact True.intro | with_reducible assumption | with_reducible refine And.intro ?_ ?_ | intro _)
      all_goals first
        | omega
        | assumption
        | rfl
        | (split <;> omega)
        | grind [mShOk]
        | skip
theorem met_X8_tryShuttle (l : Launch) : sm_Met l yX8_tryShuttle cX8_tryShuttle 8 (some .int) 2 0 0 p_X8_tryShuttle f_X8_tryShuttle := sm_met 1 (Or.inr (Or.inl ⟨rfl, rfl⟩)) (by decide +kernel) (sn_X8_tryShuttle l) ok_X8_tryShuttle
def mLateE (w : sm_W) (x v : Int) : Int := if 0 ≤ x ∧ x < wI w 155 1 then (if 1 ≤ v ∧ v ≤ 300 then (if wI w 155 (17 + 5 * x + 2) + v ≤ 300 then 0 else -2) else -2) else -1
def p_X8_whyNotLate : List sm_V → sm_W → Prop
  | [.inr (.inl m), .inl x, .inl v], w => m = 154 ∧ mOK w
  | _, _ => False
def f_X8_whyNotLate : sm_F
  | [.inr (.inl m), .inl x, .inl v], w => (some (.inl (mLateE w x v)), w)
  | _, w => (none, w)
def tb_X8_whyNotLate : List (Nat × List sm_O) := [(0, [oA 0, oI 1, oCv 8 30 p_X8_isShuttle f_X8_isShuttle 0 0 2, oNe0 12, oK (-1), oGo 43]),
  (12, [oI 2, oK 1, oK 300, oCs p_X8_in f_X8_in 0 0 3, oEq0 41, oA 0, oI 1, oK 2, oCv 8 30 p_X8_of f_X8_of 0 0 3, oI 2, oAdd, oK 300, oGt 41, oK 0, oGo 43]),
  (41, [oK (-2), oGo 43]),
  (43, [oIr])]
set_option maxRecDepth 100000 in
theorem sb_X8_whyNotLate_0 (l : Launch) : sm_SndB l RX8 "whyNotLate" cX8_whyNotLate 3 1 2 0 [oA 0, oI 1, oCv 8 30 p_X8_isShuttle f_X8_isShuttle 0 0 2, oNe0 12, oK (-1), oGo 43] := sb_cons (sd_aload_n (by decide +kernel : decode cX8_whyNotLate 0 = .ok (.aload_n 0, 1)) rfl) (sb_cons (sd_iload_n (by decide +kernel : decode cX8_whyNotLate 1 = .ok (.iload_n 1, 1)) rfl) (sb_cons (sd_callv (n := 1) (met_X8_isShuttle l) (by decide) (by decide) wm_774 wm_772 wm_10 ⟨by decide +kernel, by decide +kernel, by decide +kernel⟩ kl_8 wm_773 wm_1112 (by decide +kernel : decode cX8_whyNotLate 2 = .ok (.invokevirtual 198, 3))) (sb_cons (sd_ne0 (by decide +kernel : decode cX8_whyNotLate 5 = .ok (.ifCond .ne 7, 3)) (by decide)) (sb_cons (sd_iconst (by decide +kernel : decode cX8_whyNotLate 8 = .ok (.iconst (-1), 1)) ⟨by decide, by decide⟩) (sb_cons (sd_goto (x := 0) (by decide +kernel : decode cX8_whyNotLate 9 = .ok (.goto 34, 3)) (by decide)) sb_nil)))))
set_option maxRecDepth 100000 in
theorem sb_X8_whyNotLate_12 (l : Launch) : sm_SndB l RX8 "whyNotLate" cX8_whyNotLate 3 1 2 12 [oI 2, oK 1, oK 300, oCs p_X8_in f_X8_in 0 0 3, oEq0 41, oA 0, oI 1, oK 2, oCv 8 30 p_X8_of f_X8_of 0 0 3, oI 2, oAdd, oK 300, oGt 41, oK 0, oGo 43] := sb_cons (sd_iload_n (by decide +kernel : decode cX8_whyNotLate 12 = .ok (.iload_n 2, 1)) rfl) (sb_cons (sd_iconst (by decide +kernel : decode cX8_whyNotLate 13 = .ok (.iconst 1, 1)) ⟨by decide, by decide⟩) (sb_cons (sd_sipush (by decide +kernel : decode cX8_whyNotLate 14 = .ok (.sipush 300, 3)) ⟨by decide, by decide⟩ (by decide)) (sb_cons (sd_calls (n := 3) (met_X8_in l) (by decide) (by decide) wm_710 wm_708 wm_10 ⟨by decide +kernel, by decide +kernel, by decide +kernel⟩ wm_709 (by decide +kernel : decode cX8_whyNotLate 17 = .ok (.invokestatic 74, 3))) (sb_cons (sd_eq0 (by decide +kernel : decode cX8_whyNotLate 20 = .ok (.ifCond .eq 21, 3)) (by decide)) (sb_cons (sd_aload_n (by decide +kernel : decode cX8_whyNotLate 23 = .ok (.aload_n 0, 1)) rfl) (sb_cons (sd_iload_n (by decide +kernel : decode cX8_whyNotLate 24 = .ok (.iload_n 1, 1)) rfl) (sb_cons (sd_iconst (by decide +kernel : decode cX8_whyNotLate 25 = .ok (.iconst 2, 1)) ⟨by decide, by decide⟩) (sb_cons (sd_callv (n := 2) (met_X8_of l) (by decide) (by decide) wm_778 wm_776 wm_10 ⟨by decide +kernel, by decide +kernel, by decide +kernel⟩ kl_8 wm_777 wm_1113 (by decide +kernel : decode cX8_whyNotLate 26 = .ok (.invokevirtual 78, 3))) (sb_cons (sd_iload_n (by decide +kernel : decode cX8_whyNotLate 29 = .ok (.iload_n 2, 1)) rfl) (sb_cons (sd_iadd (by decide +kernel : decode cX8_whyNotLate 30 = .ok (.iadd, 1))) (sb_cons (sd_sipush (by decide +kernel : decode cX8_whyNotLate 31 = .ok (.sipush 300, 3)) ⟨by decide, by decide⟩ (by decide)) (sb_cons (sd_gt (by decide +kernel : decode cX8_whyNotLate 34 = .ok (.if_icmp .gt 7, 3)) (by decide)) (sb_cons (sd_iconst (by decide +kernel : decode cX8_whyNotLate 37 = .ok (.iconst 0, 1)) ⟨by decide, by decide⟩) (sb_cons (sd_goto (x := 0) (by decide +kernel : decode cX8_whyNotLate 38 = .ok (.goto 5, 3)) (by decide)) sb_nil))))))))))))))
set_option maxRecDepth 100000 in
theorem sb_X8_whyNotLate_41 (l : Launch) : sm_SndB l RX8 "whyNotLate" cX8_whyNotLate 3 1 2 41 [oK (-2), oGo 43] := sb_cons (sd_bipush (by decide +kernel : decode cX8_whyNotLate 41 = .ok (.bipush (-2), 2)) ⟨by decide, by decide⟩ (by decide)) (sb_cons (sd_fall (x := 0)) sb_nil)
set_option maxRecDepth 100000 in
theorem sb_X8_whyNotLate_43 (l : Launch) : sm_SndB l RX8 "whyNotLate" cX8_whyNotLate 3 1 2 43 [oIr] := sb_cons (sd_ireturn (x := 0) rfl (by decide +kernel : decode cX8_whyNotLate 43 = .ok (.ireturn, 1))) sb_nil
theorem sn_X8_whyNotLate (l : Launch) : sm_SndT l RX8 "whyNotLate" cX8_whyNotLate 3 1 2 tb_X8_whyNotLate := st_cons (sb_X8_whyNotLate_0 l) (st_cons (sb_X8_whyNotLate_12 l) (st_cons (sb_X8_whyNotLate_41 l) (st_cons (sb_X8_whyNotLate_43 l) (st_nil))))
set_option maxRecDepth 100000 in
set_option maxHeartbeats 4000000 in
theorem ok_X8_whyNotLate : sm_Ok tb_X8_whyNotLate 3 0 0 p_X8_whyNotLate f_X8_whyNotLate := by
  intro as w hp ha hw
  match as, hp with
  | [.inr (.inl m), .inl x, .inl v], hp =>
  refine ⟨Nat.le_of_ble_eq_true rfl, fun Z hZ => ?_⟩
  obtain ⟨rfl, ⟨hT, hv⟩⟩ := hp
  have hO : mOK w := ⟨hT, hv⟩
  have hm := vOK_many hv
  have hq := fun h0 h1 => vOK_sh (x := x) hv h0 h1
  refine hZ (fun _ => false) 16 0 _ _ _ _ _ ?_
  simp only [sm_run, sm_blk, sm_get, sm_ent, sm_ents, sm_wds, sm_wd, sm_nl, sm_pop, sm_back, sm_cases, oK, oLK, oL, oI, oA, oJ, oIs, oAs, oJs, oInc, oAdd, oSub, oMul, oDiv, oRem, oNeg, oAnd, oAndB, oOr, oShl, oI2c, oI2l, oL2i, oLand, oLor, oLshl, oLshr, oLushr, oLcmp, oDup, oDup2, oPop, oGo, oFg, oEq, oNe, oLt, oGe, oGt, oLe, oEq0, oNe0, oLt0, oGe0, oGt0, oLe0, oSw, oGi, oGr, oPi, oPz, oPr, oLen, oIl, oZl, oCl, oRl, oIst, oZst, oCst, oRst, oCopy, oNew, oNa, oNa2, oObj, oCs, oCv, oCi, oIr, oZr, oVr, Nat.beq, List.getElem?_cons_zero, List.getElem?_cons_succ, List.set_cons_zero, List.set_cons_succ, List.length_cons, List.length_nil, List.nil_append, List.cons_append, List.append_nil, List.replicate_succ, List.replicate_zero, Nat.reduceAdd, Nat.reduceSub, Nat.reduceLT, Nat.reduceLeDiff, Nat.reduceBEq, true_and, and_true, Nat.zero_add, Nat.add_zero, Nat.le_refl, Option.some.injEq, exists_eq_left', true_or, or_true, or_false, false_or, reduceCtorEq, Prod.mk.injEq, Sum.inl.injEq, and_self, false_and, and_false, not_true_eq_false, not_false_eq_true, false_implies, true_implies, sm_r, Int.add_zero, Int.zero_add, wI_wsI, wS_wsI, wR_wsI, wI_wCp, wS_wCp, wR_wCp, Nat.reduceEqDiff, reduceIte, sT_iff, sT_iffC, wIf_ne, ne_eq, Bool.false_or, Bool.true_or, Bool.or_false, Bool.or_true, Bool.or_self, tb_X8_whyNotLate, p_X8_in, p_X8_isShuttle, p_X8_of, f_X8_in, f_X8_isShuttle, f_X8_of, p_X8_whyNotLate, f_X8_whyNotLate, sS_154 hT, hT, hO, b01]
  repeat' (first | exact True.intro | with_reducible assumption | with_reducible refine And.intro ?_ ?_ | intro _)
  all_goals first
    | omega
    | assumption
    | rfl
    | (split <;> omega)
    | grind [mLateE]
    | skip
theorem met_X8_whyNotLate (l : Launch) : sm_Met l yX8_whyNotLate cX8_whyNotLate 3 (some .int) 2 0 0 p_X8_whyNotLate f_X8_whyNotLate := sm_met 1 (Or.inr (Or.inl ⟨rfl, rfl⟩)) (by decide +kernel) (sn_X8_whyNotLate l) ok_X8_whyNotLate
def p_X8_tryLate : List sm_V → sm_W → Prop
  | [.inr (.inl m), .inl x, .inl v, .inl b], w => m = 154 ∧ mOK w ∧ mH w
  | _, _ => False
def f_X8_tryLate : sm_F
  | [.inr (.inl m), .inl x, .inl v, .inl b], w => (some (.inl (if mLateE w x v < 0 then mLateE w x v else wI w 155 (17 + 5 * x + 2) + v)), (if mLateE w x v < 0 then w else wsI (mKf w b) 155 (17 + 5 * x + 2) (wI w 155 (17 + 5 * x + 2) + v)))
  | _, w => (none, w)
def tb_X8_tryLate : List (Nat × List sm_O) := [(0, [oA 0, oI 1, oI 2, oCv 8 30 p_X8_whyNotLate f_X8_whyNotLate 0 0 3, oIs 4, oI 4, oGe0 16, oI 4, oIr]),
  (16, [oA 0, oI 3, oCv 8 30 p_X8_keepIf f_X8_keepIf 0 0 2, oA 0, oGr 8 30 0, oK 17, oK 5, oI 1, oMul, oAdd, oK 2, oAdd, oDup2, oIl, oI 2, oAdd, oIst, oA 0, oI 1, oK 2, oCv 8 30 p_X8_of f_X8_of 0 0 3, oIr])]
set_option maxRecDepth 100000 in
theorem sb_X8_tryLate_0 (l : Launch) : sm_SndB l RX8 "tryLate" cX8_tryLate 5 1 3 0 [oA 0, oI 1, oI 2, oCv 8 30 p_X8_whyNotLate f_X8_whyNotLate 0 0 3, oIs 4, oI 4, oGe0 16, oI 4, oIr] := sb_cons (sd_aload_n (by decide +kernel : decode cX8_tryLate 0 = .ok (.aload_n 0, 1)) rfl) (sb_cons (sd_iload_n (by decide +kernel : decode cX8_tryLate 1 = .ok (.iload_n 1, 1)) rfl) (sb_cons (sd_iload_n (by decide +kernel : decode cX8_tryLate 2 = .ok (.iload_n 2, 1)) rfl) (sb_cons (sd_callv (n := 2) (met_X8_whyNotLate l) (by decide) (by decide) wm_770 wm_768 wm_10 ⟨by decide +kernel, by decide +kernel, by decide +kernel⟩ kl_8 wm_769 wm_1111 (by decide +kernel : decode cX8_tryLate 3 = .ok (.invokevirtual 201, 3))) (sb_cons (sd_istore (by decide +kernel : decode cX8_tryLate 6 = .ok (.istore 4, 2))) (sb_cons (sd_iload (by decide +kernel : decode cX8_tryLate 8 = .ok (.iload 4, 2))) (sb_cons (sd_ge0 (by decide +kernel : decode cX8_tryLate 10 = .ok (.ifCond .ge 6, 3)) (by decide)) (sb_cons (sd_iload (by decide +kernel : decode cX8_tryLate 13 = .ok (.iload 4, 2))) (sb_cons (sd_ireturn (x := 0) rfl (by decide +kernel : decode cX8_tryLate 15 = .ok (.ireturn, 1))) sb_nil))))))))
set_option maxRecDepth 100000 in
theorem sb_X8_tryLate_16 (l : Launch) : sm_SndB l RX8 "tryLate" cX8_tryLate 5 1 3 16 [oA 0, oI 3, oCv 8 30 p_X8_keepIf f_X8_keepIf 0 0 2, oA 0, oGr 8 30 0, oK 17, oK 5, oI 1, oMul, oAdd, oK 2, oAdd, oDup2, oIl, oI 2, oAdd, oIst, oA 0, oI 1, oK 2, oCv 8 30 p_X8_of f_X8_of 0 0 3, oIr] := sb_cons (sd_aload_n (by decide +kernel : decode cX8_tryLate 16 = .ok (.aload_n 0, 1)) rfl) (sb_cons (sd_iload_n (by decide +kernel : decode cX8_tryLate 17 = .ok (.iload_n 3, 1)) rfl) (sb_cons (sd_callv (n := 1) (met_X8_keepIf l) (by decide) (by decide) wm_735 wm_733 wm_10 ⟨by decide +kernel, by decide +kernel, by decide +kernel⟩ kl_8 wm_734 wm_1107 (by decide +kernel : decode cX8_tryLate 18 = .ok (.invokevirtual 174, 3))) (sb_cons (sd_aload_n (by decide +kernel : decode cX8_tryLate 21 = .ok (.aload_n 0, 1)) rfl) (sb_cons (sd_getr (k := 0) kl_8 (by decide) rfl wm_673 (by decide +kernel : decode cX8_tryLate 22 = .ok (.getfield 7, 3))) (sb_cons (sd_bipush (by decide +kernel : decode cX8_tryLate 25 = .ok (.bipush 17, 2)) ⟨by decide, by decide⟩ (by decide)) (sb_cons (sd_iconst (by decide +kernel : decode cX8_tryLate 27 = .ok (.iconst 5, 1)) ⟨by decide, by decide⟩) (sb_cons (sd_iload_n (by decide +kernel : decode cX8_tryLate 28 = .ok (.iload_n 1, 1)) rfl) (sb_cons (sd_imul (by decide +kernel : decode cX8_tryLate 29 = .ok (.imul, 1))) (sb_cons (sd_iadd (by decide +kernel : decode cX8_tryLate 30 = .ok (.iadd, 1))) (sb_cons (sd_iconst (by decide +kernel : decode cX8_tryLate 31 = .ok (.iconst 2, 1)) ⟨by decide, by decide⟩) (sb_cons (sd_iadd (by decide +kernel : decode cX8_tryLate 32 = .ok (.iadd, 1))) (sb_cons (sd_dup2 (by decide +kernel : decode cX8_tryLate 33 = .ok (.dup2, 1))) (sb_cons (sd_iaload (by decide +kernel : decode cX8_tryLate 34 = .ok (.iaload, 1))) (sb_cons (sd_iload_n (by decide +kernel : decode cX8_tryLate 35 = .ok (.iload_n 2, 1)) rfl) (sb_cons (sd_iadd (by decide +kernel : decode cX8_tryLate 36 = .ok (.iadd, 1))) (sb_cons (sd_iastore (by decide +kernel : decode cX8_tryLate 37 = .ok (.iastore, 1))) (sb_cons (sd_aload_n (by decide +kernel : decode cX8_tryLate 38 = .ok (.aload_n 0, 1)) rfl) (sb_cons (sd_iload_n (by decide +kernel : decode cX8_tryLate 39 = .ok (.iload_n 1, 1)) rfl) (sb_cons (sd_iconst (by decide +kernel : decode cX8_tryLate 40 = .ok (.iconst 2, 1)) ⟨by decide, by decide⟩) (sb_cons (sd_callv (n := 2) (met_X8_of l) (by decide) (by decide) wm_778 wm_776 wm_10 ⟨by decide +kernel, by decide +kernel, by decide +kernel⟩ kl_8 wm_777 wm_1113 (by decide +kernel : decode cX8_tryLate 41 = .ok (.invokevirtual 78, 3))) (sb_cons (sd_ireturn (x := 0) rfl (by decide +kernel : decode cX8_tryLate 44 = .ok (.ireturn, 1))) sb_nil)))))))))))))))))))))
theorem sn_X8_tryLate (l : Launch) : sm_SndT l RX8 "tryLate" cX8_tryLate 5 1 3 tb_X8_tryLate := st_cons (sb_X8_tryLate_0 l) (st_cons (sb_X8_tryLate_16 l) (st_nil))
set_option maxRecDepth 100000 in
set_option maxHeartbeats 4000000 in
theorem ok_X8_tryLate : sm_Ok tb_X8_tryLate 5 0 0 p_X8_tryLate f_X8_tryLate := by
  intro as w hp ha hw
  match as, hp with
  | [.inr (.inl m), .inl x, .inl v, .inl b], hp =>
  refine ⟨Nat.le_of_ble_eq_true rfl, fun Z hZ => ?_⟩
  obtain ⟨rfl, ⟨hT, hv⟩, hH⟩ := hp
  have hO : mOK w := ⟨hT, hv⟩
  have hm := vOK_many hv
  have hq := fun h0 h1 => vOK_sh (x := x) hv h0 h1
  have hT2 := (mKf_keep (w := w) b).2 hT
  have ha := mKf_at w b
  by_cases hok : mLateE w x v < 0
  · skip
    refine hZ (fun _ => false) 16 0 _ _ _ _ _ ?_
    simp only [sm_run, sm_blk, sm_get, sm_ent, sm_ents, sm_wds, sm_wd, sm_nl, sm_pop, sm_back, sm_cases, oK, oLK, oL, oI, oA, oJ, oIs, oAs, oJs, oInc, oAdd, oSub, oMul, oDiv, oRem, oNeg, oAnd, oAndB, oOr, oShl, oI2c, oI2l, oL2i, oLand, oLor, oLshl, oLshr, oLushr, oLcmp, oDup, oDup2, oPop, oGo, oFg, oEq, oNe, oLt, oGe, oGt, oLe, oEq0, oNe0, oLt0, oGe0, oGt0, oLe0, oSw, oGi, oGr, oPi, oPz, oPr, oLen, oIl, oZl, oCl, oRl, oIst, oZst, oCst, oRst, oCopy, oNew, oNa, oNa2, oObj, oCs, oCv, oCi, oIr, oZr, oVr, Nat.beq, List.getElem?_cons_zero, List.getElem?_cons_succ, List.set_cons_zero, List.set_cons_succ, List.length_cons, List.length_nil, List.nil_append, List.cons_append, List.append_nil, List.replicate_succ, List.replicate_zero, Nat.reduceAdd, Nat.reduceSub, Nat.reduceLT, Nat.reduceLeDiff, Nat.reduceBEq, true_and, and_true, Nat.zero_add, Nat.add_zero, Nat.le_refl, Option.some.injEq, exists_eq_left', true_or, or_true, or_false, false_or, reduceCtorEq, Prod.mk.injEq, Sum.inl.injEq, and_self, false_and, and_false, not_true_eq_false, not_false_eq_true, false_implies, true_implies, sm_r, Int.add_zero, Int.zero_add, wI_wsI, wS_wsI, wR_wsI, wI_wCp, wS_wCp, wR_wCp, Nat.reduceEqDiff, reduceIte, sT_iff, sT_iffC, wIf_ne, ne_eq, Bool.false_or, Bool.true_or, Bool.or_false, Bool.or_true, Bool.or_self, tb_X8_tryLate, p_X8_keepIf, p_X8_of, p_X8_whyNotLate, f_X8_keepIf, f_X8_of, f_X8_whyNotLate, p_X8_tryLate, f_X8_tryLate, sS_154 hT, hT, hH, hO, if_pos hok]
    repeat' (first | exact True.intro | with_reducible assumption | with_reducible refine And.intro ?_ ?_ | intro _)
    all_goals first
      | omega
      | assumption
      | rfl
      | (split <;> omega)
      | grind
      | skip
  · have hx : 0 ≤ x ∧ x < wI w 155 1 ∧ 1 ≤ v ∧ v ≤ 300 ∧ wI w 155 (17 + 5 * x + 2) + v ≤ 300 := by
      unfold mLateE at hok
      grind
    refine hZ (fun _ => false) 16 0 _ _ _ _ _ ?_
    simp only [sm_run, sm_blk, sm_get, sm_ent, sm_ents, sm_wds, sm_wd, sm_nl, sm_pop, sm_back, sm_cases, oK, oLK, oL, oI, oA, oJ, oIs, oAs, oJs, oInc, oAdd, oSub, oMul, oDiv, oRem, oNeg, oAnd, oAndB, oOr, oShl, oI2c, oI2l, oL2i, oLand, oLor, oLshl, oLshr, oLushr, oLcmp, oDup, oDup2, oPop, oGo, oFg, oEq, oNe, oLt, oGe, oGt, oLe, oEq0, oNe0, oLt0, oGe0, oGt0, oLe0, oSw, oGi, oGr, oPi, oPz, oPr, oLen, oIl, oZl, oCl, oRl, oIst, oZst, oCst, oRst, oCopy, oNew, oNa, oNa2, oObj, oCs, oCv, oCi, oIr, oZr, oVr, Nat.beq, List.getElem?_cons_zero, List.getElem?_cons_succ, List.set_cons_zero, List.set_cons_succ, List.length_cons, List.length_nil, List.nil_append, List.cons_append, List.append_nil, List.replicate_succ, List.replicate_zero, Nat.reduceAdd, Nat.reduceSub, Nat.reduceLT, Nat.reduceLeDiff, Nat.reduceBEq, true_and, and_true, Nat.zero_add, Nat.add_zero, Nat.le_refl, Option.some.injEq, exists_eq_left', true_or, or_true, or_false, false_or, reduceCtorEq, Prod.mk.injEq, Sum.inl.injEq, and_self, false_and, and_false, not_true_eq_false, not_false_eq_true, false_implies, true_implies, sm_r, Int.add_zero, Int.zero_add, wI_wsI, wS_wsI, wR_wsI, wI_wCp, wS_wCp, wR_wCp, Nat.reduceEqDiff, reduceIte, sT_iff, sT_iffC, wIf_ne, ne_eq, Bool.false_or, Bool.true_or, Bool.or_false, Bool.or_true, Bool.or_self, tb_X8_tryLate, p_X8_keepIf, p_X8_of, p_X8_whyNotLate, f_X8_keepIf, f_X8_of, f_X8_whyNotLate, p_X8_tryLate, f_X8_tryLate, sS_154 hT, hT, hH, hO, sS_154 hT2, sR_154_0 hT2, sS_155 hT2, hT2, ha, if_neg hok]
    repeat' (first | exact True.intro | with_reducible assumption | with_reducible refine And.intro ?_ ?_ | intro _)
    all_goals first
      | omega
      | assumption
      | rfl
      | (split <;> omega)
      | grind
      | skip
theorem met_X8_tryLate (l : Launch) : sm_Met l yX8_tryLate cX8_tryLate 5 (some .int) 3 0 0 p_X8_tryLate f_X8_tryLate := sm_met 1 (Or.inr (Or.inl ⟨rfl, rfl⟩)) (by decide +kernel) (sn_X8_tryLate l) ok_X8_tryLate
def p_X8_tryPrefer : List sm_V → sm_W → Prop
  | [.inr (.inl m), .inl x, .inl v, .inl b], w => m = 154 ∧ mOK w ∧ mH w
  | _, _ => False
def f_X8_tryPrefer : sm_F
  | [.inr (.inl m), .inl x, .inl v, .inl b], w => (some (.inl (if 0 ≤ x ∧ x < wI w 155 1 then (if 0 ≤ v ∧ v ≤ 9 then wI w 155 (17 + 5 * x + 4) else -2) else -1)), (if 0 ≤ x ∧ x < wI w 155 1 then (if 0 ≤ v ∧ v ≤ 9 then wsI (mKf w b) 155 (17 + 5 * x + 4) v else w) else w))
  | _, w => (none, w)
def tb_X8_tryPrefer : List (Nat × List sm_O) := [(0, [oA 0, oI 1, oCv 8 30 p_X8_isShuttle f_X8_isShuttle 0 0 2, oNe0 10, oK (-1), oIr]),
  (10, [oI 2, oK 0, oK 9, oCs p_X8_in f_X8_in 0 0 3, oEq0 37, oA 0, oK 17, oK 5, oI 1, oMul, oAdd, oK 4, oAdd, oI 2, oI 3, oCv 8 30 p_X8_change f_X8_change 0 0 4, oGo 39]),
  (37, [oK (-2), oGo 39]),
  (39, [oIr])]
set_option maxRecDepth 100000 in
theorem sb_X8_tryPrefer_0 (l : Launch) : sm_SndB l RX8 "tryPrefer" cX8_tryPrefer 4 1 3 0 [oA 0, oI 1, oCv 8 30 p_X8_isShuttle f_X8_isShuttle 0 0 2, oNe0 10, oK (-1), oIr] := sb_cons (sd_aload_n (by decide +kernel : decode cX8_tryPrefer 0 = .ok (.aload_n 0, 1)) rfl) (sb_cons (sd_iload_n (by decide +kernel : decode cX8_tryPrefer 1 = .ok (.iload_n 1, 1)) rfl) (sb_cons (sd_callv (n := 1) (met_X8_isShuttle l) (by decide) (by decide) wm_774 wm_772 wm_10 ⟨by decide +kernel, by decide +kernel, by decide +kernel⟩ kl_8 wm_773 wm_1112 (by decide +kernel : decode cX8_tryPrefer 2 = .ok (.invokevirtual 198, 3))) (sb_cons (sd_ne0 (by decide +kernel : decode cX8_tryPrefer 5 = .ok (.ifCond .ne 5, 3)) (by decide)) (sb_cons (sd_iconst (by decide +kernel : decode cX8_tryPrefer 8 = .ok (.iconst (-1), 1)) ⟨by decide, by decide⟩) (sb_cons (sd_ireturn (x := 0) rfl (by decide +kernel : decode cX8_tryPrefer 9 = .ok (.ireturn, 1))) sb_nil)))))
set_option maxRecDepth 100000 in
theorem sb_X8_tryPrefer_10 (l : Launch) : sm_SndB l RX8 "tryPrefer" cX8_tryPrefer 4 1 3 10 [oI 2, oK 0, oK 9, oCs p_X8_in f_X8_in 0 0 3, oEq0 37, oA 0, oK 17, oK 5, oI 1, oMul, oAdd, oK 4, oAdd, oI 2, oI 3, oCv 8 30 p_X8_change f_X8_change 0 0 4, oGo 39] := sb_cons (sd_iload_n (by decide +kernel : decode cX8_tryPrefer 10 = .ok (.iload_n 2, 1)) rfl) (sb_cons (sd_iconst (by decide +kernel : decode cX8_tryPrefer 11 = .ok (.iconst 0, 1)) ⟨by decide, by decide⟩) (sb_cons (sd_bipush (by decide +kernel : decode cX8_tryPrefer 12 = .ok (.bipush 9, 2)) ⟨by decide, by decide⟩ (by decide)) (sb_cons (sd_calls (n := 3) (met_X8_in l) (by decide) (by decide) wm_710 wm_708 wm_10 ⟨by decide +kernel, by decide +kernel, by decide +kernel⟩ wm_709 (by decide +kernel : decode cX8_tryPrefer 14 = .ok (.invokestatic 74, 3))) (sb_cons (sd_eq0 (by decide +kernel : decode cX8_tryPrefer 17 = .ok (.ifCond .eq 20, 3)) (by decide)) (sb_cons (sd_aload_n (by decide +kernel : decode cX8_tryPrefer 20 = .ok (.aload_n 0, 1)) rfl) (sb_cons (sd_bipush (by decide +kernel : decode cX8_tryPrefer 21 = .ok (.bipush 17, 2)) ⟨by decide, by decide⟩ (by decide)) (sb_cons (sd_iconst (by decide +kernel : decode cX8_tryPrefer 23 = .ok (.iconst 5, 1)) ⟨by decide, by decide⟩) (sb_cons (sd_iload_n (by decide +kernel : decode cX8_tryPrefer 24 = .ok (.iload_n 1, 1)) rfl) (sb_cons (sd_imul (by decide +kernel : decode cX8_tryPrefer 25 = .ok (.imul, 1))) (sb_cons (sd_iadd (by decide +kernel : decode cX8_tryPrefer 26 = .ok (.iadd, 1))) (sb_cons (sd_iconst (by decide +kernel : decode cX8_tryPrefer 27 = .ok (.iconst 4, 1)) ⟨by decide, by decide⟩) (sb_cons (sd_iadd (by decide +kernel : decode cX8_tryPrefer 28 = .ok (.iadd, 1))) (sb_cons (sd_iload_n (by decide +kernel : decode cX8_tryPrefer 29 = .ok (.iload_n 2, 1)) rfl) (sb_cons (sd_iload_n (by decide +kernel : decode cX8_tryPrefer 30 = .ok (.iload_n 3, 1)) rfl) (sb_cons (sd_callv (n := 3) (met_X8_change l) (by decide) (by decide) wm_731 wm_729 wm_10 ⟨by decide +kernel, by decide +kernel, by decide +kernel⟩ kl_8 wm_730 wm_1106 (by decide +kernel : decode cX8_tryPrefer 31 = .ok (.invokevirtual 181, 3))) (sb_cons (sd_goto (x := 0) (by decide +kernel : decode cX8_tryPrefer 34 = .ok (.goto 5, 3)) (by decide)) sb_nil))))))))))))))))
set_option maxRecDepth 100000 in
theorem sb_X8_tryPrefer_37 (l : Launch) : sm_SndB l RX8 "tryPrefer" cX8_tryPrefer 4 1 3 37 [oK (-2), oGo 39] := sb_cons (sd_bipush (by decide +kernel : decode cX8_tryPrefer 37 = .ok (.bipush (-2), 2)) ⟨by decide, by decide⟩ (by decide)) (sb_cons (sd_fall (x := 0)) sb_nil)
set_option maxRecDepth 100000 in
theorem sb_X8_tryPrefer_39 (l : Launch) : sm_SndB l RX8 "tryPrefer" cX8_tryPrefer 4 1 3 39 [oIr] := sb_cons (sd_ireturn (x := 0) rfl (by decide +kernel : decode cX8_tryPrefer 39 = .ok (.ireturn, 1))) sb_nil
theorem sn_X8_tryPrefer (l : Launch) : sm_SndT l RX8 "tryPrefer" cX8_tryPrefer 4 1 3 tb_X8_tryPrefer := st_cons (sb_X8_tryPrefer_0 l) (st_cons (sb_X8_tryPrefer_10 l) (st_cons (sb_X8_tryPrefer_37 l) (st_cons (sb_X8_tryPrefer_39 l) (st_nil))))
set_option maxRecDepth 100000 in
set_option maxHeartbeats 4000000 in
theorem ok_X8_tryPrefer : sm_Ok tb_X8_tryPrefer 4 0 0 p_X8_tryPrefer f_X8_tryPrefer := by
  intro as w hp ha hw
  match as, hp with
  | [.inr (.inl m), .inl x, .inl v, .inl b], hp =>
  refine ⟨Nat.le_of_ble_eq_true rfl, fun Z hZ => ?_⟩
  obtain ⟨rfl, ⟨hT, hv⟩, hH⟩ := hp
  have hO : mOK w := ⟨hT, hv⟩
  have hm := vOK_many hv
  refine hZ (fun _ => false) 16 0 _ _ _ _ _ ?_
  simp only [sm_run, sm_blk, sm_get, sm_ent, sm_ents, sm_wds, sm_wd, sm_nl, sm_pop, sm_back, sm_cases, oK, oLK, oL, oI, oA, oJ, oIs, oAs, oJs, oInc, oAdd, oSub, oMul, oDiv, oRem, oNeg, oAnd, oAndB, oOr, oShl, oI2c, oI2l, oL2i, oLand, oLor, oLshl, oLshr, oLushr, oLcmp, oDup, oDup2, oPop, oGo, oFg, oEq, oNe, oLt, oGe, oGt, oLe, oEq0, oNe0, oLt0, oGe0, oGt0, oLe0, oSw, oGi, oGr, oPi, oPz, oPr, oLen, oIl, oZl, oCl, oRl, oIst, oZst, oCst, oRst, oCopy, oNew, oNa, oNa2, oObj, oCs, oCv, oCi, oIr, oZr, oVr, Nat.beq, List.getElem?_cons_zero, List.getElem?_cons_succ, List.set_cons_zero, List.set_cons_succ, List.length_cons, List.length_nil, List.nil_append, List.cons_append, List.append_nil, List.replicate_succ, List.replicate_zero, Nat.reduceAdd, Nat.reduceSub, Nat.reduceLT, Nat.reduceLeDiff, Nat.reduceBEq, true_and, and_true, Nat.zero_add, Nat.add_zero, Nat.le_refl, Option.some.injEq, exists_eq_left', true_or, or_true, or_false, false_or, reduceCtorEq, Prod.mk.injEq, Sum.inl.injEq, and_self, false_and, and_false, not_true_eq_false, not_false_eq_true, false_implies, true_implies, sm_r, Int.add_zero, Int.zero_add, wI_wsI, wS_wsI, wR_wsI, wI_wCp, wS_wCp, wR_wCp, Nat.reduceEqDiff, reduceIte, sT_iff, sT_iffC, wIf_ne, ne_eq, Bool.false_or, Bool.true_or, Bool.or_false, Bool.or_true, Bool.or_self, tb_X8_tryPrefer, p_X8_change, p_X8_in, p_X8_isShuttle, f_X8_change, f_X8_in, f_X8_isShuttle, p_X8_tryPrefer, f_X8_tryPrefer, sS_154 hT, hT, hH, hO, b01]
  repeat' (first | exact True.intro | with_reducible assumption | with_reducible refine And.intro ?_ ?_ | intro _)
  all_goals first
    | omega
    | assumption
    | rfl
    | (split <;> omega)
    | grind
    | skip
theorem met_X8_tryPrefer (l : Launch) : sm_Met l yX8_tryPrefer cX8_tryPrefer 4 (some .int) 3 0 0 p_X8_tryPrefer f_X8_tryPrefer := sm_met 1 (Or.inr (Or.inl ⟨rfl, rfl⟩)) (by decide +kernel) (sn_X8_tryPrefer l) ok_X8_tryPrefer
def mRm1 (x j : Int) (w : sm_W) : sm_W := wsI w 155 (17 + 5 * x + j) (wI w 155 (17 + 5 * x + j + 5))
def mRm (w : sm_W) (x b : Int) : sm_W := itI (mRm1 x) (wsI (mKf w b) 155 1 (wI w 155 1 - 1)) (5 * (wI w 155 1 - 1) - 5 * x)
theorem mRmL (x : Int) (hx : 0 ≤ x) (w : sm_W) (n : Int) (hn : 0 ≤ n) : wI (itI (mRm1 x) w n) 155 1 = wI w 155 1 ∧ (sT w → sT (itI (mRm1 x) w n)) :=
  itI_ind (f := mRm1 x) (fun _ r => wI r 155 1 = wI w 155 1 ∧ (sT w → sT r)) n ⟨rfl, id⟩ (fun i r i0 _ hr => ⟨by unfold mRm1; rw [wI_wsI, if_neg (by omega), hr.1], hr.2⟩) n hn (Int.le_refl _)
def p_X8_tryRemove : List sm_V → sm_W → Prop
  | [.inr (.inl m), .inl x, .inl b], w => m = 154 ∧ mOK w ∧ mH w
  | _, _ => False
def f_X8_tryRemove : sm_F
  | [.inr (.inl m), .inl x, .inl b], w => (some (.inl (if 0 ≤ x ∧ x < wI w 155 1 then wI w 155 1 - 1 else -1)), (if 0 ≤ x ∧ x < wI w 155 1 then mRm w x b else w))
  | _, w => (none, w)
def tb_X8_tryRemove : List (Nat × List sm_O) := [(0, [oA 0, oI 1, oCv 8 30 p_X8_isShuttle f_X8_isShuttle 0 0 2, oNe0 10, oK (-1), oIr]),
  (10, [oA 0, oI 2, oCv 8 30 p_X8_keepIf f_X8_keepIf 0 0 2, oA 0, oGr 8 30 0, oK 1, oDup2, oIl, oK 1, oSub, oIst, oK 17, oK 5, oI 1, oMul, oAdd, oIs 3, oFg 1, oFg 2, oGo 32]),
  (32, [oI 3, oK 17, oK 5, oA 0, oGr 8 30 0, oK 1, oIl, oMul, oAdd, oGe 67, oA 0, oGr 8 30 0, oI 3, oA 0, oGr 8 30 0, oI 3, oK 5, oAdd, oIl, oIst, oInc 3 1, oFg 1, oFg 2, oGo 32]),
  (67, [oA 0, oGr 8 30 0, oK 1, oIl, oIr])]
set_option maxRecDepth 100000 in
theorem sb_X8_tryRemove_0 (l : Launch) : sm_SndB l RX8 "tryRemove" cX8_tryRemove 4 1 2 0 [oA 0, oI 1, oCv 8 30 p_X8_isShuttle f_X8_isShuttle 0 0 2, oNe0 10, oK (-1), oIr] := sb_cons (sd_aload_n (by decide +kernel : decode cX8_tryRemove 0 = .ok (.aload_n 0, 1)) rfl) (sb_cons (sd_iload_n (by decide +kernel : decode cX8_tryRemove 1 = .ok (.iload_n 1, 1)) rfl) (sb_cons (sd_callv (n := 1) (met_X8_isShuttle l) (by decide) (by decide) wm_774 wm_772 wm_10 ⟨by decide +kernel, by decide +kernel, by decide +kernel⟩ kl_8 wm_773 wm_1112 (by decide +kernel : decode cX8_tryRemove 2 = .ok (.invokevirtual 198, 3))) (sb_cons (sd_ne0 (by decide +kernel : decode cX8_tryRemove 5 = .ok (.ifCond .ne 5, 3)) (by decide)) (sb_cons (sd_iconst (by decide +kernel : decode cX8_tryRemove 8 = .ok (.iconst (-1), 1)) ⟨by decide, by decide⟩) (sb_cons (sd_ireturn (x := 0) rfl (by decide +kernel : decode cX8_tryRemove 9 = .ok (.ireturn, 1))) sb_nil)))))
set_option maxRecDepth 100000 in
theorem sb_X8_tryRemove_10 (l : Launch) : sm_SndB l RX8 "tryRemove" cX8_tryRemove 4 1 2 10 [oA 0, oI 2, oCv 8 30 p_X8_keepIf f_X8_keepIf 0 0 2, oA 0, oGr 8 30 0, oK 1, oDup2, oIl, oK 1, oSub, oIst, oK 17, oK 5, oI 1, oMul, oAdd, oIs 3, oFg 1, oFg 2, oGo 32] := sb_cons (sd_aload_n (by decide +kernel : decode cX8_tryRemove 10 = .ok (.aload_n 0, 1)) rfl) (sb_cons (sd_iload_n (by decide +kernel : decode cX8_tryRemove 11 = .ok (.iload_n 2, 1)) rfl) (sb_cons (sd_callv (n := 1) (met_X8_keepIf l) (by decide) (by decide) wm_735 wm_733 wm_10 ⟨by decide +kernel, by decide +kernel, by decide +kernel⟩ kl_8 wm_734 wm_1107 (by decide +kernel : decode cX8_tryRemove 12 = .ok (.invokevirtual 174, 3))) (sb_cons (sd_aload_n (by decide +kernel : decode cX8_tryRemove 15 = .ok (.aload_n 0, 1)) rfl) (sb_cons (sd_getr (k := 0) kl_8 (by decide) rfl wm_673 (by decide +kernel : decode cX8_tryRemove 16 = .ok (.getfield 7, 3))) (sb_cons (sd_iconst (by decide +kernel : decode cX8_tryRemove 19 = .ok (.iconst 1, 1)) ⟨by decide, by decide⟩) (sb_cons (sd_dup2 (by decide +kernel : decode cX8_tryRemove 20 = .ok (.dup2, 1))) (sb_cons (sd_iaload (by decide +kernel : decode cX8_tryRemove 21 = .ok (.iaload, 1))) (sb_cons (sd_iconst (by decide +kernel : decode cX8_tryRemove 22 = .ok (.iconst 1, 1)) ⟨by decide, by decide⟩) (sb_cons (sd_isub (by decide +kernel : decode cX8_tryRemove 23 = .ok (.isub, 1))) (sb_cons (sd_iastore (by decide +kernel : decode cX8_tryRemove 24 = .ok (.iastore, 1))) (sb_cons (sd_bipush (by decide +kernel : decode cX8_tryRemove 25 = .ok (.bipush 17, 2)) ⟨by decide, by decide⟩ (by decide)) (sb_cons (sd_iconst (by decide +kernel : decode cX8_tryRemove 27 = .ok (.iconst 5, 1)) ⟨by decide, by decide⟩) (sb_cons (sd_iload_n (by decide +kernel : decode cX8_tryRemove 28 = .ok (.iload_n 1, 1)) rfl) (sb_cons (sd_imul (by decide +kernel : decode cX8_tryRemove 29 = .ok (.imul, 1))) (sb_cons (sd_iadd (by decide +kernel : decode cX8_tryRemove 30 = .ok (.iadd, 1))) (sb_cons (sd_istore_n (by decide +kernel : decode cX8_tryRemove 31 = .ok (.istore_n 3, 1)) rfl) (sb_cons (sd_fg) (sb_cons (sd_fg) (sb_cons (sd_fall (x := 0)) sb_nil)))))))))))))))))))
set_option maxRecDepth 100000 in
theorem sb_X8_tryRemove_32 (l : Launch) : sm_SndB l RX8 "tryRemove" cX8_tryRemove 4 1 2 32 [oI 3, oK 17, oK 5, oA 0, oGr 8 30 0, oK 1, oIl, oMul, oAdd, oGe 67, oA 0, oGr 8 30 0, oI 3, oA 0, oGr 8 30 0, oI 3, oK 5, oAdd, oIl, oIst, oInc 3 1, oFg 1, oFg 2, oGo 32] := sb_cons (sd_iload_n (by decide +kernel : decode cX8_tryRemove 32 = .ok (.iload_n 3, 1)) rfl) (sb_cons (sd_bipush (by decide +kernel : decode cX8_tryRemove 33 = .ok (.bipush 17, 2)) ⟨by decide, by decide⟩ (by decide)) (sb_cons (sd_iconst (by decide +kernel : decode cX8_tryRemove 35 = .ok (.iconst 5, 1)) ⟨by decide, by decide⟩) (sb_cons (sd_aload_n (by decide +kernel : decode cX8_tryRemove 36 = .ok (.aload_n 0, 1)) rfl) (sb_cons (sd_getr (k := 0) kl_8 (by decide) rfl wm_673 (by decide +kernel : decode cX8_tryRemove 37 = .ok (.getfield 7, 3))) (sb_cons (sd_iconst (by decide +kernel : decode cX8_tryRemove 40 = .ok (.iconst 1, 1)) ⟨by decide, by decide⟩) (sb_cons (sd_iaload (by decide +kernel : decode cX8_tryRemove 41 = .ok (.iaload, 1))) (sb_cons (sd_imul (by decide +kernel : decode cX8_tryRemove 42 = .ok (.imul, 1))) (sb_cons (sd_iadd (by decide +kernel : decode cX8_tryRemove 43 = .ok (.iadd, 1))) (sb_cons (sd_ge (by decide +kernel : decode cX8_tryRemove 44 = .ok (.if_icmp .ge 23, 3)) (by decide)) (sb_cons (sd_aload_n (by decide +kernel : decode cX8_tryRemove 47 = .ok (.aload_n 0, 1)) rfl) (sb_cons (sd_getr (k := 0) kl_8 (by decide) rfl wm_673 (by decide +kernel : decode cX8_tryRemove 48 = .ok (.getfield 7, 3))) (sb_cons (sd_iload_n (by decide +kernel : decode cX8_tryRemove 51 = .ok (.iload_n 3, 1)) rfl) (sb_cons (sd_aload_n (by decide +kernel : decode cX8_tryRemove 52 = .ok (.aload_n 0, 1)) rfl) (sb_cons (sd_getr (k := 0) kl_8 (by decide) rfl wm_673 (by decide +kernel : decode cX8_tryRemove 53 = .ok (.getfield 7, 3))) (sb_cons (sd_iload_n (by decide +kernel : decode cX8_tryRemove 56 = .ok (.iload_n 3, 1)) rfl) (sb_cons (sd_iconst (by decide +kernel : decode cX8_tryRemove 57 = .ok (.iconst 5, 1)) ⟨by decide, by decide⟩) (sb_cons (sd_iadd (by decide +kernel : decode cX8_tryRemove 58 = .ok (.iadd, 1))) (sb_cons (sd_iaload (by decide +kernel : decode cX8_tryRemove 59 = .ok (.iaload, 1))) (sb_cons (sd_iastore (by decide +kernel : decode cX8_tryRemove 60 = .ok (.iastore, 1))) (sb_cons (sd_iinc (by decide +kernel : decode cX8_tryRemove 61 = .ok (.iinc 3 1, 3))) (sb_cons (sd_fg) (sb_cons (sd_fg) (sb_cons (sd_goto (x := 0) (by decide +kernel : decode cX8_tryRemove 64 = .ok (.goto (-32), 3)) (by decide)) sb_nil)))))))))))))))))))))))
set_option maxRecDepth 100000 in
theorem sb_X8_tryRemove_67 (l : Launch) : sm_SndB l RX8 "tryRemove" cX8_tryRemove 4 1 2 67 [oA 0, oGr 8 30 0, oK 1, oIl, oIr] := sb_cons (sd_aload_n (by decide +kernel : decode cX8_tryRemove 67 = .ok (.aload_n 0, 1)) rfl) (sb_cons (sd_getr (k := 0) kl_8 (by decide) rfl wm_673 (by decide +kernel : decode cX8_tryRemove 68 = .ok (.getfield 7, 3))) (sb_cons (sd_iconst (by decide +kernel : decode cX8_tryRemove 71 = .ok (.iconst 1, 1)) ⟨by decide, by decide⟩) (sb_cons (sd_iaload (by decide +kernel : decode cX8_tryRemove 72 = .ok (.iaload, 1))) (sb_cons (sd_ireturn (x := 0) rfl (by decide +kernel : decode cX8_tryRemove 73 = .ok (.ireturn, 1))) sb_nil))))
theorem sn_X8_tryRemove (l : Launch) : sm_SndT l RX8 "tryRemove" cX8_tryRemove 4 1 2 tb_X8_tryRemove := st_cons (sb_X8_tryRemove_0 l) (st_cons (sb_X8_tryRemove_10 l) (st_cons (sb_X8_tryRemove_32 l) (st_cons (sb_X8_tryRemove_67 l) (st_nil))))
set_option maxRecDepth 100000 in
set_option maxHeartbeats 4000000 in
theorem ok_X8_tryRemove : sm_Ok tb_X8_tryRemove 4 0 0 p_X8_tryRemove f_X8_tryRemove := by
  intro as w hp ha hw
  match as, hp with
  | [.inr (.inl m), .inl x, .inl b], hp =>
  refine ⟨Nat.le_of_ble_eq_true rfl, fun Z hZ => ?_⟩
  obtain ⟨rfl, ⟨hT, hv⟩, hH⟩ := hp
  have hO : mOK w := ⟨hT, hv⟩
  have hm := vOK_many hv
  have hT2 := (mKf_keep (w := w) b).2 hT
  have ha := mKf_at w b
  by_cases hok : 0 ≤ x ∧ x < wI w 155 1
  · have hl := sm_loopI Z 32 (17 + 5 * x) (17 + 5 * (wI w 155 1 - 1)) (fun i => [some (.inr (.inl 154)), none, none, some (.inl i)]) (fun i => itI (mRm1 x) (wsI (mKf w b) 155 1 (wI w 155 1 - 1)) (i - (17 + 5 * x))) 0 0 (by omega) (fun i h0 h1 ih => by
      obtain ⟨j1, j2⟩ := mRmL x hok.1 (wsI (mKf w b) 155 1 (wI w 155 1 - 1)) (i - (17 + 5 * x)) (by omega)
      have hT := j2 (sT_wsI hT2)
      rw [show i + 1 - (17 + 5 * x) = i - (17 + 5 * x) + 1 by omega, itI_s _ _ (by omega)] at ih
      rw [wI_wsI, if_pos ⟨rfl, rfl⟩] at j1
      have he : i = 17 + 5 * (wI w 155 1 - 1) → itI (mRm1 x) (wsI (mKf w b) 155 1 (wI w 155 1 - 1)) (i - (17 + 5 * x)) = mRm w x b := fun e => by
        unfold mRm
        rw [show i - (17 + 5 * x) = 5 * (wI w 155 1 - 1) - 5 * x by omega]
      generalize itI (mRm1 x) (wsI (mKf w b) 155 1 (wI w 155 1 - 1)) (i - (17 + 5 * x)) = u at *
      unfold mRm1 at ih
      rw [show 17 + 5 * x + (i - (17 + 5 * x)) = i by omega] at ih
      refine hZ (fun u => Nat.beq u 32) 14 32 _ _ _ _ _ ?_
      simp only [sm_run, sm_blk, sm_get, sm_ent, sm_ents, sm_wds, sm_wd, sm_nl, sm_pop, sm_back, sm_cases, oK, oLK, oL, oI, oA, oJ, oIs, oAs, oJs, oInc, oAdd, oSub, oMul, oDiv, oRem, oNeg, oAnd, oAndB, oOr, oShl, oI2c, oI2l, oL2i, oLand, oLor, oLshl, oLshr, oLushr, oLcmp, oDup, oDup2, oPop, oGo, oFg, oEq, oNe, oLt, oGe, oGt, oLe, oEq0, oNe0, oLt0, oGe0, oGt0, oLe0, oSw, oGi, oGr, oPi, oPz, oPr, oLen, oIl, oZl, oCl, oRl, oIst, oZst, oCst, oRst, oCopy, oNew, oNa, oNa2, oObj, oCs, oCv, oCi, oIr, oZr, oVr, Nat.beq, List.getElem?_cons_zero, List.getElem?_cons_succ, List.set_cons_zero, List.set_cons_succ, List.length_cons, List.length_nil, List.nil_append, List.cons_append, List.append_nil, List.replicate_succ, List.replicate_zero, Nat.reduceAdd, Nat.reduceSub, Nat.reduceLT, Nat.reduceLeDiff, Nat.reduceBEq, true_and, and_true, Nat.zero_add, Nat.add_zero, Nat.le_refl, Option.some.injEq, exists_eq_left', true_or, or_true, or_false, false_or, reduceCtorEq, Prod.mk.injEq, Sum.inl.injEq, and_self, false_and, and_false, not_true_eq_false, not_false_eq_true, false_implies, true_implies, sm_r, Int.add_zero, Int.zero_add, wI_wsI, wS_wsI, wR_wsI, wI_wCp, wS_wCp, wR_wCp, Nat.reduceEqDiff, reduceIte, sT_iff, sT_iffC, wIf_ne, ne_eq, Bool.false_or, Bool.true_or, Bool.or_false, Bool.or_true, Bool.or_self, tb_X8_tryRemove, p_X8_isShuttle, p_X8_keepIf, f_X8_isShuttle, f_X8_keepIf, p_X8_tryRemove, f_X8_tryRemove, sS_154 hT, sR_154_0 hT, sS_155 hT, hT, j1, if_pos hok]
      repeat' (first | exact True.intro | with_reducible assumption | with_reducible refine And.intro ?_ ?_ | intro _)
      all_goals first
        | omega
        | assumption
        | rfl
        | (split <;> omega)
        | (have k9 := ih (by omega)
           (repeat' split at k9) <;> first | exact k9 | omega)
        | (have k9 := ih2 (by omega)
           (repeat' split at k9) <;> first | exact k9 | omega)
        | exact he (by omega)
        | (congr 1; omega)
        | (rw [if_pos (by omega)] at he; exact he)
        | exact hD1 (by omega)
        | exact hD2 (by omega)
        | grind
        | skip
      )
    rw [Int.sub_self, itI_0] at hl
    refine hZ (fun u => Nat.beq u 32) 14 0 _ _ _ _ _ ?_
    simp only [sm_run, sm_blk, sm_get, sm_ent, sm_ents, sm_wds, sm_wd, sm_nl, sm_pop, sm_back, sm_cases, oK, oLK, oL, oI, oA, oJ, oIs, oAs, oJs, oInc, oAdd, oSub, oMul, oDiv, oRem, oNeg, oAnd, oAndB, oOr, oShl, oI2c, oI2l, oL2i, oLand, oLor, oLshl, oLshr, oLushr, oLcmp, oDup, oDup2, oPop, oGo, oFg, oEq, oNe, oLt, oGe, oGt, oLe, oEq0, oNe0, oLt0, oGe0, oGt0, oLe0, oSw, oGi, oGr, oPi, oPz, oPr, oLen, oIl, oZl, oCl, oRl, oIst, oZst, oCst, oRst, oCopy, oNew, oNa, oNa2, oObj, oCs, oCv, oCi, oIr, oZr, oVr, Nat.beq, List.getElem?_cons_zero, List.getElem?_cons_succ, List.set_cons_zero, List.set_cons_succ, List.length_cons, List.length_nil, List.nil_append, List.cons_append, List.append_nil, List.replicate_succ, List.replicate_zero, Nat.reduceAdd, Nat.reduceSub, Nat.reduceLT, Nat.reduceLeDiff, Nat.reduceBEq, true_and, and_true, Nat.zero_add, Nat.add_zero, Nat.le_refl, Option.some.injEq, exists_eq_left', true_or, or_true, or_false, false_or, reduceCtorEq, Prod.mk.injEq, Sum.inl.injEq, and_self, false_and, and_false, not_true_eq_false, not_false_eq_true, false_implies, true_implies, sm_r, Int.add_zero, Int.zero_add, wI_wsI, wS_wsI, wR_wsI, wI_wCp, wS_wCp, wR_wCp, Nat.reduceEqDiff, reduceIte, sT_iff, sT_iffC, wIf_ne, ne_eq, Bool.false_or, Bool.true_or, Bool.or_false, Bool.or_true, Bool.or_self, tb_X8_tryRemove, p_X8_isShuttle, p_X8_keepIf, f_X8_isShuttle, f_X8_keepIf, p_X8_tryRemove, f_X8_tryRemove, sS_154 hT, hT, hH, hO, sS_154 hT2, sR_154_0 hT2, sS_155 hT2, ha, b01, if_pos hok]
    repeat' (first | exact True.intro | with_reducible assumption | with_reducible refine And.intro ?_ ?_ | intro _)
    all_goals first
      | omega
      | assumption
      | rfl
      | (split <;> omega)
      | (have k9 := ih (by omega)
         (repeat' split at k9) <;> first | exact k9 | omega)
      | (have k9 := ih2 (by omega)
         (repeat' split at k9) <;> first | exact k9 | omega)
      | exact he (by omega)
      | (congr 1; omega)
      | (rw [if_pos (by omega)] at he; exact he)
      | exact hD1 (by omega)
      | exact hD2 (by omega)
      | skip
  · skip
    refine hZ (fun u => Nat.beq u 32) 14 0 _ _ _ _ _ ?_
    simp only [sm_run, sm_blk, sm_get, sm_ent, sm_ents, sm_wds, sm_wd, sm_nl, sm_pop, sm_back, sm_cases, oK, oLK, oL, oI, oA, oJ, oIs, oAs, oJs, oInc, oAdd, oSub, oMul, oDiv, oRem, oNeg, oAnd, oAndB, oOr, oShl, oI2c, oI2l, oL2i, oLand, oLor, oLshl, oLshr, oLushr, oLcmp, oDup, oDup2, oPop, oGo, oFg, oEq, oNe, oLt, oGe, oGt, oLe, oEq0, oNe0, oLt0, oGe0, oGt0, oLe0, oSw, oGi, oGr, oPi, oPz, oPr, oLen, oIl, oZl, oCl, oRl, oIst, oZst, oCst, oRst, oCopy, oNew, oNa, oNa2, oObj, oCs, oCv, oCi, oIr, oZr, oVr, Nat.beq, List.getElem?_cons_zero, List.getElem?_cons_succ, List.set_cons_zero, List.set_cons_succ, List.length_cons, List.length_nil, List.nil_append, List.cons_append, List.append_nil, List.replicate_succ, List.replicate_zero, Nat.reduceAdd, Nat.reduceSub, Nat.reduceLT, Nat.reduceLeDiff, Nat.reduceBEq, true_and, and_true, Nat.zero_add, Nat.add_zero, Nat.le_refl, Option.some.injEq, exists_eq_left', true_or, or_true, or_false, false_or, reduceCtorEq, Prod.mk.injEq, Sum.inl.injEq, and_self, false_and, and_false, not_true_eq_false, not_false_eq_true, false_implies, true_implies, sm_r, Int.add_zero, Int.zero_add, wI_wsI, wS_wsI, wR_wsI, wI_wCp, wS_wCp, wR_wCp, Nat.reduceEqDiff, reduceIte, sT_iff, sT_iffC, wIf_ne, ne_eq, Bool.false_or, Bool.true_or, Bool.or_false, Bool.or_true, Bool.or_self, tb_X8_tryRemove, p_X8_isShuttle, p_X8_keepIf, f_X8_isShuttle, f_X8_keepIf, p_X8_tryRemove, f_X8_tryRemove, sS_154 hT, hT, hH, hO, b01, if_neg hok]
    repeat' (first | exact True.intro | with_reducible assumption | with_reducible refine And.intro ?_ ?_ | intro _)
    all_goals first
      | omega
      | assumption
      | rfl
      | (split <;> omega)
      | (have k9 := ih (by omega)
         (repeat' split at k9) <;> first | exact k9 | omega)
      | (have k9 := ih2 (by omega)
         (repeat' split at k9) <;> first | exact k9 | omega)
      | exact he (by omega)
      | (congr 1; omega)
      | (rw [if_pos (by omega)] at he; exact he)
      | exact hD1 (by omega)
      | exact hD2 (by omega)
      | grind
      | skip
theorem met_X8_tryRemove (l : Launch) : sm_Met l yX8_tryRemove cX8_tryRemove 4 (some .int) 2 0 0 p_X8_tryRemove f_X8_tryRemove := sm_met 1 (Or.inr (Or.inl ⟨rfl, rfl⟩)) (by decide +kernel) (sn_X8_tryRemove l) ok_X8_tryRemove
def p_X8_first : List sm_V → sm_W → Prop
  | [.inr (.inl m), .inl v], w => m = 154 ∧ sT w ∧ mH w
  | _, _ => False
def f_X8_first : sm_F
  | [.inr (.inl m), .inl v], w => (some (.inl (if 0 ≤ v ∧ v ≤ 2 then wI w 155 0 else -2)), (if 0 ≤ v ∧ v ≤ 2 then wsI (mKeep w) 155 0 v else w))
  | _, w => (none, w)
def tb_X8_first : List (Nat × List sm_O) := [(0, [oI 1, oK 0, oK 2, oCs p_X8_in f_X8_in 0 0 3, oNe0 12, oK (-2), oIr]),
  (12, [oA 0, oCv 8 30 p_X8_keep f_X8_keep 0 0 1, oA 0, oGr 8 30 0, oK 0, oIl, oIs 2, oA 0, oGr 8 30 0, oK 0, oI 1, oIst, oI 2, oIr])]
set_option maxRecDepth 100000 in
theorem sb_X8_first_0 (l : Launch) : sm_SndB l RX8 "first" cX8_first 3 1 1 0 [oI 1, oK 0, oK 2, oCs p_X8_in f_X8_in 0 0 3, oNe0 12, oK (-2), oIr] := sb_cons (sd_iload_n (by decide +kernel : decode cX8_first 0 = .ok (.iload_n 1, 1)) rfl) (sb_cons (sd_iconst (by decide +kernel : decode cX8_first 1 = .ok (.iconst 0, 1)) ⟨by decide, by decide⟩) (sb_cons (sd_iconst (by decide +kernel : decode cX8_first 2 = .ok (.iconst 2, 1)) ⟨by decide, by decide⟩) (sb_cons (sd_calls (n := 3) (met_X8_in l) (by decide) (by decide) wm_710 wm_708 wm_10 ⟨by decide +kernel, by decide +kernel, by decide +kernel⟩ wm_709 (by decide +kernel : decode cX8_first 3 = .ok (.invokestatic 74, 3))) (sb_cons (sd_ne0 (by decide +kernel : decode cX8_first 6 = .ok (.ifCond .ne 6, 3)) (by decide)) (sb_cons (sd_bipush (by decide +kernel : decode cX8_first 9 = .ok (.bipush (-2), 2)) ⟨by decide, by decide⟩ (by decide)) (sb_cons (sd_ireturn (x := 0) rfl (by decide +kernel : decode cX8_first 11 = .ok (.ireturn, 1))) sb_nil))))))
set_option maxRecDepth 100000 in
theorem sb_X8_first_12 (l : Launch) : sm_SndB l RX8 "first" cX8_first 3 1 1 12 [oA 0, oCv 8 30 p_X8_keep f_X8_keep 0 0 1, oA 0, oGr 8 30 0, oK 0, oIl, oIs 2, oA 0, oGr 8 30 0, oK 0, oI 1, oIst, oI 2, oIr] := sb_cons (sd_aload_n (by decide +kernel : decode cX8_first 12 = .ok (.aload_n 0, 1)) rfl) (sb_cons (sd_callv (n := 0) (met_X8_keep l) (by decide) (by decide) wm_714 wm_712 wm_10 ⟨by decide +kernel, by decide +kernel, by decide +kernel⟩ kl_8 wm_713 wm_1104 (by decide +kernel : decode cX8_first 13 = .ok (.invokevirtual 89, 3))) (sb_cons (sd_aload_n (by decide +kernel : decode cX8_first 16 = .ok (.aload_n 0, 1)) rfl) (sb_cons (sd_getr (k := 0) kl_8 (by decide) rfl wm_673 (by decide +kernel : decode cX8_first 17 = .ok (.getfield 7, 3))) (sb_cons (sd_iconst (by decide +kernel : decode cX8_first 20 = .ok (.iconst 0, 1)) ⟨by decide, by decide⟩) (sb_cons (sd_iaload (by decide +kernel : decode cX8_first 21 = .ok (.iaload, 1))) (sb_cons (sd_istore_n (by decide +kernel : decode cX8_first 22 = .ok (.istore_n 2, 1)) rfl) (sb_cons (sd_aload_n (by decide +kernel : decode cX8_first 23 = .ok (.aload_n 0, 1)) rfl) (sb_cons (sd_getr (k := 0) kl_8 (by decide) rfl wm_673 (by decide +kernel : decode cX8_first 24 = .ok (.getfield 7, 3))) (sb_cons (sd_iconst (by decide +kernel : decode cX8_first 27 = .ok (.iconst 0, 1)) ⟨by decide, by decide⟩) (sb_cons (sd_iload_n (by decide +kernel : decode cX8_first 28 = .ok (.iload_n 1, 1)) rfl) (sb_cons (sd_iastore (by decide +kernel : decode cX8_first 29 = .ok (.iastore, 1))) (sb_cons (sd_iload_n (by decide +kernel : decode cX8_first 30 = .ok (.iload_n 2, 1)) rfl) (sb_cons (sd_ireturn (x := 0) rfl (by decide +kernel : decode cX8_first 31 = .ok (.ireturn, 1))) sb_nil)))))))))))))
theorem sn_X8_first (l : Launch) : sm_SndT l RX8 "first" cX8_first 3 1 1 tb_X8_first := st_cons (sb_X8_first_0 l) (st_cons (sb_X8_first_12 l) (st_nil))
set_option maxRecDepth 100000 in
set_option maxHeartbeats 4000000 in
theorem ok_X8_first : sm_Ok tb_X8_first 3 0 0 p_X8_first f_X8_first := by
  intro as w hp ha hw
  match as, hp with
  | [.inr (.inl m), .inl v], hp =>
  refine ⟨Nat.le_of_ble_eq_true rfl, fun Z hZ => ?_⟩
  obtain ⟨rfl, hT, hH⟩ := hp
  have hT2 := (mKeep_keep (w := w)).2 hT
  have ha : wI (mKeep w) 155 = wI w 155 := mKeep_keep.1 _ (by decide) (by decide)
  refine hZ (fun _ => false) 16 0 _ _ _ _ _ ?_
  simp only [sm_run, sm_blk, sm_get, sm_ent, sm_ents, sm_wds, sm_wd, sm_nl, sm_pop, sm_back, sm_cases, oK, oLK, oL, oI, oA, oJ, oIs, oAs, oJs, oInc, oAdd, oSub, oMul, oDiv, oRem, oNeg, oAnd, oAndB, oOr, oShl, oI2c, oI2l, oL2i, oLand, oLor, oLshl, oLshr, oLushr, oLcmp, oDup, oDup2, oPop, oGo, oFg, oEq, oNe, oLt, oGe, oGt, oLe, oEq0, oNe0, oLt0, oGe0, oGt0, oLe0, oSw, oGi, oGr, oPi, oPz, oPr, oLen, oIl, oZl, oCl, oRl, oIst, oZst, oCst, oRst, oCopy, oNew, oNa, oNa2, oObj, oCs, oCv, oCi, oIr, oZr, oVr, Nat.beq, List.getElem?_cons_zero, List.getElem?_cons_succ, List.set_cons_zero, List.set_cons_succ, List.length_cons, List.length_nil, List.nil_append, List.cons_append, List.append_nil, List.replicate_succ, List.replicate_zero, Nat.reduceAdd, Nat.reduceSub, Nat.reduceLT, Nat.reduceLeDiff, Nat.reduceBEq, true_and, and_true, Nat.zero_add, Nat.add_zero, Nat.le_refl, Option.some.injEq, exists_eq_left', true_or, or_true, or_false, false_or, reduceCtorEq, Prod.mk.injEq, Sum.inl.injEq, and_self, false_and, and_false, not_true_eq_false, not_false_eq_true, false_implies, true_implies, sm_r, Int.add_zero, Int.zero_add, wI_wsI, wS_wsI, wR_wsI, wI_wCp, wS_wCp, wR_wCp, Nat.reduceEqDiff, reduceIte, sT_iff, sT_iffC, wIf_ne, ne_eq, Bool.false_or, Bool.true_or, Bool.or_false, Bool.or_true, Bool.or_self, tb_X8_first, p_X8_in, p_X8_keep, f_X8_in, f_X8_keep, p_X8_first, f_X8_first, sS_154 hT, hT, hH, b01, sS_154 hT2, sR_154_0 hT2, sS_155 hT2, ha]
  repeat' (first | exact True.intro | with_reducible assumption | with_reducible refine And.intro ?_ ?_ | intro _)
  all_goals first
    | omega
    | assumption
    | rfl
    | (split <;> omega)
    | grind
    | skip

theorem met_X8_first (l : Launch) : sm_Met l yX8_first cX8_first 3 (some .int) 1 0 0 p_X8_first f_X8_first := sm_met 1 (Or.inr (Or.inl ⟨rfl, rfl⟩)) (by decide +kernel) (sn_X8_first l) ok_X8_first
end
