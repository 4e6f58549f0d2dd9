section
-- ===== PART A: goes FIRST, ahead of the names: the tables' words, and 'selects' of the private methods out of them =====
/-- a private method of a class that the tables say can be made, by its rows of tables_1 -/
def lw_okq (q : MethodName × Nat) : Prop := (q.1.cls ≠ "java/lang/invoke/MethodHandle" ∧ q.1.cls ≠ "java/lang/invoke/VarHandle") ∧ Cond.instantiable q.1.cls q.2 ∈ tables_1 ∧ Cond.privateMethod q.1 ∈ tables_1 ∧ Cond.instanceMethod q.1 ∈ tables_1
theorem lw_p0 : lw_okq (⟨"PassingTrack", "changed", "(I)I"⟩, 12) := ⟨⟨by decide +kernel, by decide +kernel⟩, List.mem_of_getElem? (i := 14) (by decide +kernel), List.mem_of_getElem? (i := 271) (by decide +kernel), List.mem_of_getElem? (i := 272) (by decide +kernel)⟩
theorem lw_p1 : lw_okq (⟨"PassingTrack$History", "dropOldest", "()V"⟩, 2) := ⟨⟨by decide +kernel, by decide +kernel⟩, List.mem_of_getElem? (i := 202) (by decide +kernel), List.mem_of_getElem? (i := 279) (by decide +kernel), List.mem_of_getElem? (i := 280) (by decide +kernel)⟩
theorem lw_p2 : lw_okq (⟨"PassingTrack$Day", "putOutside", "()V"⟩, 11) := ⟨⟨by decide +kernel, by decide +kernel⟩, List.mem_of_getElem? (i := 22) (by decide +kernel), List.mem_of_getElem? (i := 365) (by decide +kernel), List.mem_of_getElem? (i := 366) (by decide +kernel)⟩
theorem lw_p3 : lw_okq (⟨"PassingTrack$Day", "stand", "(III)V"⟩, 11) := ⟨⟨by decide +kernel, by decide +kernel⟩, List.mem_of_getElem? (i := 22) (by decide +kernel), List.mem_of_getElem? (i := 370) (by decide +kernel), List.mem_of_getElem? (i := 371) (by decide +kernel)⟩
theorem lw_p4 : lw_okq (⟨"PassingTrack$Day", "comeIn", "(I)V"⟩, 11) := ⟨⟨by decide +kernel, by decide +kernel⟩, List.mem_of_getElem? (i := 22) (by decide +kernel), List.mem_of_getElem? (i := 375) (by decide +kernel), List.mem_of_getElem? (i := 376) (by decide +kernel)⟩
theorem lw_p5 : lw_okq (⟨"PassingTrack$Day", "letLeave", "(I)V"⟩, 11) := ⟨⟨by decide +kernel, by decide +kernel⟩, List.mem_of_getElem? (i := 22) (by decide +kernel), List.mem_of_getElem? (i := 391) (by decide +kernel), List.mem_of_getElem? (i := 392) (by decide +kernel)⟩
theorem lw_p6 : lw_okq (⟨"PassingTrack$Day", "firstToLeave", "(I)I"⟩, 11) := ⟨⟨by decide +kernel, by decide +kernel⟩, List.mem_of_getElem? (i := 22) (by decide +kernel), List.mem_of_getElem? (i := 395) (by decide +kernel), List.mem_of_getElem? (i := 396) (by decide +kernel)⟩
theorem lw_p7 : lw_okq (⟨"PassingTrack$Day", "canLeave", "(II)Z"⟩, 11) := ⟨⟨by decide +kernel, by decide +kernel⟩, List.mem_of_getElem? (i := 22) (by decide +kernel), List.mem_of_getElem? (i := 399) (by decide +kernel), List.mem_of_getElem? (i := 400) (by decide +kernel)⟩
theorem lw_p8 : lw_okq (⟨"PassingTrack$Day", "isAtEnd", "(I)Z"⟩, 11) := ⟨⟨by decide +kernel, by decide +kernel⟩, List.mem_of_getElem? (i := 22) (by decide +kernel), List.mem_of_getElem? (i := 403) (by decide +kernel), List.mem_of_getElem? (i := 404) (by decide +kernel)⟩
theorem lw_p9 : lw_okq (⟨"PassingTrack$Day", "goesBefore", "(II)Z"⟩, 11) := ⟨⟨by decide +kernel, by decide +kernel⟩, List.mem_of_getElem? (i := 22) (by decide +kernel), List.mem_of_getElem? (i := 407) (by decide +kernel), List.mem_of_getElem? (i := 408) (by decide +kernel)⟩
theorem lw_p10 : lw_okq (⟨"PassingTrack$Day", "leave", "(II)V"⟩, 11) := ⟨⟨by decide +kernel, by decide +kernel⟩, List.mem_of_getElem? (i := 22) (by decide +kernel), List.mem_of_getElem? (i := 411) (by decide +kernel), List.mem_of_getElem? (i := 412) (by decide +kernel)⟩
theorem lw_p11 : lw_okq (⟨"PassingTrack$Day", "nextEvent", "(I)I"⟩, 11) := ⟨⟨by decide +kernel, by decide +kernel⟩, List.mem_of_getElem? (i := 22) (by decide +kernel), List.mem_of_getElem? (i := 415) (by decide +kernel), List.mem_of_getElem? (i := 416) (by decide +kernel)⟩
theorem lw_p12 : lw_okq (⟨"PassingTrack$Day", "notAtEnd", "()I"⟩, 11) := ⟨⟨by decide +kernel, by decide +kernel⟩, List.mem_of_getElem? (i := 22) (by decide +kernel), List.mem_of_getElem? (i := 419) (by decide +kernel), List.mem_of_getElem? (i := 420) (by decide +kernel)⟩
theorem lw_p13 : lw_okq (⟨"PassingTrack$Waits", "gatherAt", "(LPassingTrack$Day;II)V"⟩, 2) := ⟨⟨by decide +kernel, by decide +kernel⟩, List.mem_of_getElem? (i := 133) (by decide +kernel), List.mem_of_getElem? (i := 445) (by decide +kernel), List.mem_of_getElem? (i := 446) (by decide +kernel)⟩
theorem lw_p14 : lw_okq (⟨"PassingTrack$Meetings", "gatherPair", "(LPassingTrack$Day;II)V"⟩, 2) := ⟨⟨by decide +kernel, by decide +kernel⟩, List.mem_of_getElem? (i := 146) (by decide +kernel), List.mem_of_getElem? (i := 499) (by decide +kernel), List.mem_of_getElem? (i := 500) (by decide +kernel)⟩
theorem lw_p15 : lw_okq (⟨"PassingTrack$Meetings", "insert", "(I)V"⟩, 2) := ⟨⟨by decide +kernel, by decide +kernel⟩, List.mem_of_getElem? (i := 146) (by decide +kernel), List.mem_of_getElem? (i := 508) (by decide +kernel), List.mem_of_getElem? (i := 509) (by decide +kernel)⟩
def lw_privs_1 : List (MethodName × Nat) := [(⟨"PassingTrack", "changed", "(I)I"⟩, 12), (⟨"PassingTrack$History", "dropOldest", "()V"⟩, 2), (⟨"PassingTrack$Day", "putOutside", "()V"⟩, 11), (⟨"PassingTrack$Day", "stand", "(III)V"⟩, 11), (⟨"PassingTrack$Day", "comeIn", "(I)V"⟩, 11), (⟨"PassingTrack$Day", "letLeave", "(I)V"⟩, 11), (⟨"PassingTrack$Day", "firstToLeave", "(I)I"⟩, 11), (⟨"PassingTrack$Day", "canLeave", "(II)Z"⟩, 11), (⟨"PassingTrack$Day", "isAtEnd", "(I)Z"⟩, 11), (⟨"PassingTrack$Day", "goesBefore", "(II)Z"⟩, 11), (⟨"PassingTrack$Day", "leave", "(II)V"⟩, 11), (⟨"PassingTrack$Day", "nextEvent", "(I)I"⟩, 11), (⟨"PassingTrack$Day", "notAtEnd", "()I"⟩, 11), (⟨"PassingTrack$Waits", "gatherAt", "(LPassingTrack$Day;II)V"⟩, 2), (⟨"PassingTrack$Meetings", "gatherPair", "(LPassingTrack$Day;II)V"⟩, 2), (⟨"PassingTrack$Meetings", "insert", "(I)V"⟩, 2)]
theorem lw_r1 : ∀ q ∈ lw_privs_1, lw_okq q := List.forall_mem_cons.mpr ⟨lw_p0, List.forall_mem_cons.mpr ⟨lw_p1, List.forall_mem_cons.mpr ⟨lw_p2, List.forall_mem_cons.mpr ⟨lw_p3, List.forall_mem_cons.mpr ⟨lw_p4, List.forall_mem_cons.mpr ⟨lw_p5, List.forall_mem_cons.mpr ⟨lw_p6, List.forall_mem_cons.mpr ⟨lw_p7, List.forall_mem_cons.mpr ⟨lw_p8, List.forall_mem_cons.mpr ⟨lw_p9, List.forall_mem_cons.mpr ⟨lw_p10, List.forall_mem_cons.mpr ⟨lw_p11, List.forall_mem_cons.mpr ⟨lw_p12, List.forall_mem_cons.mpr ⟨lw_p13, List.forall_mem_cons.mpr ⟨lw_p14, List.forall_mem_cons.mpr ⟨lw_p15, fun _ h => absurd h List.not_mem_nil⟩⟩⟩⟩⟩⟩⟩⟩⟩⟩⟩⟩⟩⟩⟩⟩
theorem lw_p16 : lw_okq (⟨"PassingTrack", "trialDelay", "()I"⟩, 12) := ⟨⟨by decide +kernel, by decide +kernel⟩, List.mem_of_getElem? (i := 14) (by decide +kernel), List.mem_of_getElem? (i := 562) (by decide +kernel), List.mem_of_getElem? (i := 563) (by decide +kernel)⟩
theorem lw_p17 : lw_okq (⟨"PassingTrack$Orders", "keepIfBetter", "(II)V"⟩, 3) := ⟨⟨by decide +kernel, by decide +kernel⟩, List.mem_of_getElem? (i := 160) (by decide +kernel), List.mem_of_getElem? (i := 585) (by decide +kernel), List.mem_of_getElem? (i := 586) (by decide +kernel)⟩
theorem lw_p18 : lw_okq (⟨"PassingTrack$Orders", "nextOrder", "(I)Z"⟩, 3) := ⟨⟨by decide +kernel, by decide +kernel⟩, List.mem_of_getElem? (i := 160) (by decide +kernel), List.mem_of_getElem? (i := 590) (by decide +kernel), List.mem_of_getElem? (i := 591) (by decide +kernel)⟩
theorem lw_p19 : lw_okq (⟨"PassingTrack$Orders", "swap", "(II)V"⟩, 3) := ⟨⟨by decide +kernel, by decide +kernel⟩, List.mem_of_getElem? (i := 160) (by decide +kernel), List.mem_of_getElem? (i := 594) (by decide +kernel), List.mem_of_getElem? (i := 595) (by decide +kernel)⟩
theorem lw_p20 : lw_okq (⟨"PassingTrack$Pad", "readOrder", "()Z"⟩, 5) := ⟨⟨by decide +kernel, by decide +kernel⟩, List.mem_of_getElem? (i := 178) (by decide +kernel), List.mem_of_getElem? (i := 628) (by decide +kernel), List.mem_of_getElem? (i := 629) (by decide +kernel)⟩
theorem lw_p21 : lw_okq (⟨"PassingTrack$Pad", "peek", "()I"⟩, 5) := ⟨⟨by decide +kernel, by decide +kernel⟩, List.mem_of_getElem? (i := 178) (by decide +kernel), List.mem_of_getElem? (i := 633) (by decide +kernel), List.mem_of_getElem? (i := 634) (by decide +kernel)⟩
theorem lw_p22 : lw_okq (⟨"PassingTrack$Pad", "readShuttle", "()Z"⟩, 5) := ⟨⟨by decide +kernel, by decide +kernel⟩, List.mem_of_getElem? (i := 178) (by decide +kernel), List.mem_of_getElem? (i := 637) (by decide +kernel), List.mem_of_getElem? (i := 638) (by decide +kernel)⟩
theorem lw_p23 : lw_okq (⟨"PassingTrack$Pad", "readDigit", "(II)Z"⟩, 5) := ⟨⟨by decide +kernel, by decide +kernel⟩, List.mem_of_getElem? (i := 178) (by decide +kernel), List.mem_of_getElem? (i := 641) (by decide +kernel), List.mem_of_getElem? (i := 642) (by decide +kernel)⟩
theorem lw_p24 : lw_okq (⟨"PassingTrack$Pad", "readSign", "(C)Z"⟩, 5) := ⟨⟨by decide +kernel, by decide +kernel⟩, List.mem_of_getElem? (i := 178) (by decide +kernel), List.mem_of_getElem? (i := 645) (by decide +kernel), List.mem_of_getElem? (i := 646) (by decide +kernel)⟩
theorem lw_p25 : lw_okq (⟨"PassingTrack$Pad", "readNumber", "(I)Z"⟩, 5) := ⟨⟨by decide +kernel, by decide +kernel⟩, List.mem_of_getElem? (i := 178) (by decide +kernel), List.mem_of_getElem? (i := 649) (by decide +kernel), List.mem_of_getElem? (i := 650) (by decide +kernel)⟩
theorem lw_p26 : lw_okq (⟨"PassingTrack$Pad", "obeyOrder", "(LPassingTrack$Line;)I"⟩, 5) := ⟨⟨by decide +kernel, by decide +kernel⟩, List.mem_of_getElem? (i := 178) (by decide +kernel), List.mem_of_getElem? (i := 661) (by decide +kernel), List.mem_of_getElem? (i := 662) (by decide +kernel)⟩
theorem lw_p27 : lw_okq (⟨"PassingTrackModel", "keep", "()V"⟩, 30) := ⟨⟨by decide +kernel, by decide +kernel⟩, List.mem_of_getElem? (i := 690) (by decide +kernel), List.mem_of_getElem? (i := 794) (by decide +kernel), List.mem_of_getElem? (i := 795) (by decide +kernel)⟩
theorem lw_p28 : lw_okq (⟨"PassingTrackModel", "tryTracks", "(IIZ)I"⟩, 30) := ⟨⟨by decide +kernel, by decide +kernel⟩, List.mem_of_getElem? (i := 690) (by decide +kernel), List.mem_of_getElem? (i := 802) (by decide +kernel), List.mem_of_getElem? (i := 803) (by decide +kernel)⟩
theorem lw_p29 : lw_okq (⟨"PassingTrackModel", "change", "(IIZ)I"⟩, 30) := ⟨⟨by decide +kernel, by decide +kernel⟩, List.mem_of_getElem? (i := 690) (by decide +kernel), List.mem_of_getElem? (i := 809) (by decide +kernel), List.mem_of_getElem? (i := 810) (by decide +kernel)⟩
theorem lw_p30 : lw_okq (⟨"PassingTrackModel", "keepIf", "(Z)V"⟩, 30) := ⟨⟨by decide +kernel, by decide +kernel⟩, List.mem_of_getElem? (i := 690) (by decide +kernel), List.mem_of_getElem? (i := 813) (by decide +kernel), List.mem_of_getElem? (i := 814) (by decide +kernel)⟩
theorem lw_p31 : lw_okq (⟨"PassingTrackModel", "tryRunning", "(IIZ)I"⟩, 30) := ⟨⟨by decide +kernel, by decide +kernel⟩, List.mem_of_getElem? (i := 690) (by decide +kernel), List.mem_of_getElem? (i := 821) (by decide +kernel), List.mem_of_getElem? (i := 822) (by decide +kernel)⟩
def lw_privs_2 : List (MethodName × Nat) := [(⟨"PassingTrack", "trialDelay", "()I"⟩, 12), (⟨"PassingTrack$Orders", "keepIfBetter", "(II)V"⟩, 3), (⟨"PassingTrack$Orders", "nextOrder", "(I)Z"⟩, 3), (⟨"PassingTrack$Orders", "swap", "(II)V"⟩, 3), (⟨"PassingTrack$Pad", "readOrder", "()Z"⟩, 5), (⟨"PassingTrack$Pad", "peek", "()I"⟩, 5), (⟨"PassingTrack$Pad", "readShuttle", "()Z"⟩, 5), (⟨"PassingTrack$Pad", "readDigit", "(II)Z"⟩, 5), (⟨"PassingTrack$Pad", "readSign", "(C)Z"⟩, 5), (⟨"PassingTrack$Pad", "readNumber", "(I)Z"⟩, 5), (⟨"PassingTrack$Pad", "obeyOrder", "(LPassingTrack$Line;)I"⟩, 5), (⟨"PassingTrackModel", "keep", "()V"⟩, 30), (⟨"PassingTrackModel", "tryTracks", "(IIZ)I"⟩, 30), (⟨"PassingTrackModel", "change", "(IIZ)I"⟩, 30), (⟨"PassingTrackModel", "keepIf", "(Z)V"⟩, 30), (⟨"PassingTrackModel", "tryRunning", "(IIZ)I"⟩, 30)]
theorem lw_r2 : ∀ q ∈ lw_privs_2, lw_okq q := List.forall_mem_cons.mpr ⟨lw_p16, List.forall_mem_cons.mpr ⟨lw_p17, List.forall_mem_cons.mpr ⟨lw_p18, List.forall_mem_cons.mpr ⟨lw_p19, List.forall_mem_cons.mpr ⟨lw_p20, List.forall_mem_cons.mpr ⟨lw_p21, List.forall_mem_cons.mpr ⟨lw_p22, List.forall_mem_cons.mpr ⟨lw_p23, List.forall_mem_cons.mpr ⟨lw_p24, List.forall_mem_cons.mpr ⟨lw_p25, List.forall_mem_cons.mpr ⟨lw_p26, List.forall_mem_cons.mpr ⟨lw_p27, List.forall_mem_cons.mpr ⟨lw_p28, List.forall_mem_cons.mpr ⟨lw_p29, List.forall_mem_cons.mpr ⟨lw_p30, List.forall_mem_cons.mpr ⟨lw_p31, fun _ h => absurd h List.not_mem_nil⟩⟩⟩⟩⟩⟩⟩⟩⟩⟩⟩⟩⟩⟩⟩⟩
theorem lw_p32 : lw_okq (⟨"PassingTrackModel", "tryShuttle", "(IIIIIZ)I"⟩, 30) := ⟨⟨by decide +kernel, by decide +kernel⟩, List.mem_of_getElem? (i := 690) (by decide +kernel), List.mem_of_getElem? (i := 832) (by decide +kernel), List.mem_of_getElem? (i := 833) (by decide +kernel)⟩
theorem lw_p33 : lw_okq (⟨"PassingTrackModel", "tryLate", "(IIZ)I"⟩, 30) := ⟨⟨by decide +kernel, by decide +kernel⟩, List.mem_of_getElem? (i := 690) (by decide +kernel), List.mem_of_getElem? (i := 840) (by decide +kernel), List.mem_of_getElem? (i := 841) (by decide +kernel)⟩
theorem lw_p34 : lw_okq (⟨"PassingTrackModel", "whyNotLate", "(II)I"⟩, 30) := ⟨⟨by decide +kernel, by decide +kernel⟩, List.mem_of_getElem? (i := 690) (by decide +kernel), List.mem_of_getElem? (i := 844) (by decide +kernel), List.mem_of_getElem? (i := 845) (by decide +kernel)⟩
theorem lw_p35 : lw_okq (⟨"PassingTrackModel", "isShuttle", "(I)Z"⟩, 30) := ⟨⟨by decide +kernel, by decide +kernel⟩, List.mem_of_getElem? (i := 690) (by decide +kernel), List.mem_of_getElem? (i := 848) (by decide +kernel), List.mem_of_getElem? (i := 849) (by decide +kernel)⟩
theorem lw_p36 : lw_okq (⟨"PassingTrackModel", "of", "(II)I"⟩, 30) := ⟨⟨by decide +kernel, by decide +kernel⟩, List.mem_of_getElem? (i := 690) (by decide +kernel), List.mem_of_getElem? (i := 852) (by decide +kernel), List.mem_of_getElem? (i := 853) (by decide +kernel)⟩
theorem lw_p37 : lw_okq (⟨"PassingTrackModel", "tryPrefer", "(IIZ)I"⟩, 30) := ⟨⟨by decide +kernel, by decide +kernel⟩, List.mem_of_getElem? (i := 690) (by decide +kernel), List.mem_of_getElem? (i := 860) (by decide +kernel), List.mem_of_getElem? (i := 861) (by decide +kernel)⟩
theorem lw_p38 : lw_okq (⟨"PassingTrackModel", "tryRemove", "(IZ)I"⟩, 30) := ⟨⟨by decide +kernel, by decide +kernel⟩, List.mem_of_getElem? (i := 690) (by decide +kernel), List.mem_of_getElem? (i := 868) (by decide +kernel), List.mem_of_getElem? (i := 869) (by decide +kernel)⟩
theorem lw_p39 : lw_okq (⟨"PassingTrackModel", "run", "()V"⟩, 30) := ⟨⟨by decide +kernel, by decide +kernel⟩, List.mem_of_getElem? (i := 690) (by decide +kernel), List.mem_of_getElem? (i := 876) (by decide +kernel), List.mem_of_getElem? (i := 877) (by decide +kernel)⟩
theorem lw_p40 : lw_okq (⟨"PassingTrackModel", "isAsRun", "()Z"⟩, 30) := ⟨⟨by decide +kernel, by decide +kernel⟩, List.mem_of_getElem? (i := 690) (by decide +kernel), List.mem_of_getElem? (i := 880) (by decide +kernel), List.mem_of_getElem? (i := 881) (by decide +kernel)⟩
theorem lw_p41 : lw_okq (⟨"PassingTrackModel", "beginDay", "()V"⟩, 30) := ⟨⟨by decide +kernel, by decide +kernel⟩, List.mem_of_getElem? (i := 690) (by decide +kernel), List.mem_of_getElem? (i := 884) (by decide +kernel), List.mem_of_getElem? (i := 885) (by decide +kernel)⟩
theorem lw_p42 : lw_okq (⟨"PassingTrackModel", "come", "(I)V"⟩, 30) := ⟨⟨by decide +kernel, by decide +kernel⟩, List.mem_of_getElem? (i := 690) (by decide +kernel), List.mem_of_getElem? (i := 888) (by decide +kernel), List.mem_of_getElem? (i := 889) (by decide +kernel)⟩
theorem lw_p43 : lw_okq (⟨"PassingTrackModel", "way", "(I)I"⟩, 30) := ⟨⟨by decide +kernel, by decide +kernel⟩, List.mem_of_getElem? (i := 690) (by decide +kernel), List.mem_of_getElem? (i := 892) (by decide +kernel), List.mem_of_getElem? (i := 893) (by decide +kernel)⟩
theorem lw_p44 : lw_okq (⟨"PassingTrackModel", "meet", "(I)V"⟩, 30) := ⟨⟨by decide +kernel, by decide +kernel⟩, List.mem_of_getElem? (i := 690) (by decide +kernel), List.mem_of_getElem? (i := 896) (by decide +kernel), List.mem_of_getElem? (i := 897) (by decide +kernel)⟩
theorem lw_p45 : lw_okq (⟨"PassingTrackModel", "leave", "(I)V"⟩, 30) := ⟨⟨by decide +kernel, by decide +kernel⟩, List.mem_of_getElem? (i := 690) (by decide +kernel), List.mem_of_getElem? (i := 900) (by decide +kernel), List.mem_of_getElem? (i := 901) (by decide +kernel)⟩
theorem lw_p46 : lw_okq (⟨"PassingTrackModel", "nextToLeave", "(I)I"⟩, 30) := ⟨⟨by decide +kernel, by decide +kernel⟩, List.mem_of_getElem? (i := 690) (by decide +kernel), List.mem_of_getElem? (i := 904) (by decide +kernel), List.mem_of_getElem? (i := 905) (by decide +kernel)⟩
theorem lw_p47 : lw_okq (⟨"PassingTrackModel", "canLeave", "(II)Z"⟩, 30) := ⟨⟨by decide +kernel, by decide +kernel⟩, List.mem_of_getElem? (i := 690) (by decide +kernel), List.mem_of_getElem? (i := 908) (by decide +kernel), List.mem_of_getElem? (i := 909) (by decide +kernel)⟩
def lw_privs_3 : List (MethodName × Nat) := [(⟨"PassingTrackModel", "tryShuttle", "(IIIIIZ)I"⟩, 30), (⟨"PassingTrackModel", "tryLate", "(IIZ)I"⟩, 30), (⟨"PassingTrackModel", "whyNotLate", "(II)I"⟩, 30), (⟨"PassingTrackModel", "isShuttle", "(I)Z"⟩, 30), (⟨"PassingTrackModel", "of", "(II)I"⟩, 30), (⟨"PassingTrackModel", "tryPrefer", "(IIZ)I"⟩, 30), (⟨"PassingTrackModel", "tryRemove", "(IZ)I"⟩, 30), (⟨"PassingTrackModel", "run", "()V"⟩, 30), (⟨"PassingTrackModel", "isAsRun", "()Z"⟩, 30), (⟨"PassingTrackModel", "beginDay", "()V"⟩, 30), (⟨"PassingTrackModel", "come", "(I)V"⟩, 30), (⟨"PassingTrackModel", "way", "(I)I"⟩, 30), (⟨"PassingTrackModel", "meet", "(I)V"⟩, 30), (⟨"PassingTrackModel", "leave", "(I)V"⟩, 30), (⟨"PassingTrackModel", "nextToLeave", "(I)I"⟩, 30), (⟨"PassingTrackModel", "canLeave", "(II)Z"⟩, 30)]
theorem lw_r3 : ∀ q ∈ lw_privs_3, lw_okq q := List.forall_mem_cons.mpr ⟨lw_p32, List.forall_mem_cons.mpr ⟨lw_p33, List.forall_mem_cons.mpr ⟨lw_p34, List.forall_mem_cons.mpr ⟨lw_p35, List.forall_mem_cons.mpr ⟨lw_p36, List.forall_mem_cons.mpr ⟨lw_p37, List.forall_mem_cons.mpr ⟨lw_p38, List.forall_mem_cons.mpr ⟨lw_p39, List.forall_mem_cons.mpr ⟨lw_p40, List.forall_mem_cons.mpr ⟨lw_p41, List.forall_mem_cons.mpr ⟨lw_p42, List.forall_mem_cons.mpr ⟨lw_p43, List.forall_mem_cons.mpr ⟨lw_p44, List.forall_mem_cons.mpr ⟨lw_p45, List.forall_mem_cons.mpr ⟨lw_p46, List.forall_mem_cons.mpr ⟨lw_p47, fun _ h => absurd h List.not_mem_nil⟩⟩⟩⟩⟩⟩⟩⟩⟩⟩⟩⟩⟩⟩⟩⟩
theorem lw_p48 : lw_okq (⟨"PassingTrackModel", "isReady", "(II)Z"⟩, 30) := ⟨⟨by decide +kernel, by decide +kernel⟩, List.mem_of_getElem? (i := 690) (by decide +kernel), List.mem_of_getElem? (i := 912) (by decide +kernel), List.mem_of_getElem? (i := 913) (by decide +kernel)⟩
theorem lw_p49 : lw_okq (⟨"PassingTrackModel", "readyAt", "(I)I"⟩, 30) := ⟨⟨by decide +kernel, by decide +kernel⟩, List.mem_of_getElem? (i := 690) (by decide +kernel), List.mem_of_getElem? (i := 916) (by decide +kernel), List.mem_of_getElem? (i := 917) (by decide +kernel)⟩
theorem lw_p50 : lw_okq (⟨"PassingTrackModel", "whoIsOn", "(I)I"⟩, 30) := ⟨⟨by decide +kernel, by decide +kernel⟩, List.mem_of_getElem? (i := 690) (by decide +kernel), List.mem_of_getElem? (i := 923) (by decide +kernel), List.mem_of_getElem? (i := 924) (by decide +kernel)⟩
theorem lw_p51 : lw_okq (⟨"PassingTrackModel", "taken", "(I)I"⟩, 30) := ⟨⟨by decide +kernel, by decide +kernel⟩, List.mem_of_getElem? (i := 690) (by decide +kernel), List.mem_of_getElem? (i := 927) (by decide +kernel), List.mem_of_getElem? (i := 928) (by decide +kernel)⟩
theorem lw_p52 : lw_okq (⟨"PassingTrackModel", "goesAhead", "(II)Z"⟩, 30) := ⟨⟨by decide +kernel, by decide +kernel⟩, List.mem_of_getElem? (i := 690) (by decide +kernel), List.mem_of_getElem? (i := 931) (by decide +kernel), List.mem_of_getElem? (i := 932) (by decide +kernel)⟩
theorem lw_p53 : lw_okq (⟨"PassingTrackModel", "timeOf", "(II)I"⟩, 30) := ⟨⟨by decide +kernel, by decide +kernel⟩, List.mem_of_getElem? (i := 690) (by decide +kernel), List.mem_of_getElem? (i := 935) (by decide +kernel), List.mem_of_getElem? (i := 936) (by decide +kernel)⟩
theorem lw_p54 : lw_okq (⟨"PassingTrackModel", "waitAll", "(I)V"⟩, 30) := ⟨⟨by decide +kernel, by decide +kernel⟩, List.mem_of_getElem? (i := 690) (by decide +kernel), List.mem_of_getElem? (i := 939) (by decide +kernel), List.mem_of_getElem? (i := 940) (by decide +kernel)⟩
theorem lw_p55 : lw_okq (⟨"PassingTrackModel", "reason", "(I)I"⟩, 30) := ⟨⟨by decide +kernel, by decide +kernel⟩, List.mem_of_getElem? (i := 690) (by decide +kernel), List.mem_of_getElem? (i := 943) (by decide +kernel), List.mem_of_getElem? (i := 944) (by decide +kernel)⟩
theorem lw_p56 : lw_okq (⟨"PassingTrackModel", "ends", "(I)Z"⟩, 30) := ⟨⟨by decide +kernel, by decide +kernel⟩, List.mem_of_getElem? (i := 690) (by decide +kernel), List.mem_of_getElem? (i := 947) (by decide +kernel), List.mem_of_getElem? (i := 948) (by decide +kernel)⟩
theorem lw_p57 : lw_okq (⟨"PassingTrackModel", "endOf", "(I)I"⟩, 30) := ⟨⟨by decide +kernel, by decide +kernel⟩, List.mem_of_getElem? (i := 690) (by decide +kernel), List.mem_of_getElem? (i := 951) (by decide +kernel), List.mem_of_getElem? (i := 952) (by decide +kernel)⟩
theorem lw_p58 : lw_okq (⟨"PassingTrackModel", "delayOf", "(I)I"⟩, 30) := ⟨⟨by decide +kernel, by decide +kernel⟩, List.mem_of_getElem? (i := 690) (by decide +kernel), List.mem_of_getElem? (i := 955) (by decide +kernel), List.mem_of_getElem? (i := 956) (by decide +kernel)⟩
theorem lw_p59 : lw_okq (⟨"PassingTrackModel", "waited", "(I)I"⟩, 30) := ⟨⟨by decide +kernel, by decide +kernel⟩, List.mem_of_getElem? (i := 690) (by decide +kernel), List.mem_of_getElem? (i := 959) (by decide +kernel), List.mem_of_getElem? (i := 960) (by decide +kernel)⟩
theorem lw_p60 : lw_okq (⟨"PassingTrackModel", "blamed", "(I)I"⟩, 30) := ⟨⟨by decide +kernel, by decide +kernel⟩, List.mem_of_getElem? (i := 690) (by decide +kernel), List.mem_of_getElem? (i := 963) (by decide +kernel), List.mem_of_getElem? (i := 964) (by decide +kernel)⟩
theorem lw_p61 : lw_okq (⟨"PassingTrackModel", "delay", "()I"⟩, 30) := ⟨⟨by decide +kernel, by decide +kernel⟩, List.mem_of_getElem? (i := 690) (by decide +kernel), List.mem_of_getElem? (i := 975) (by decide +kernel), List.mem_of_getElem? (i := 976) (by decide +kernel)⟩
theorem lw_p62 : lw_okq (⟨"PassingTrackModel", "meetings", "()I"⟩, 30) := ⟨⟨by decide +kernel, by decide +kernel⟩, List.mem_of_getElem? (i := 690) (by decide +kernel), List.mem_of_getElem? (i := 979) (by decide +kernel), List.mem_of_getElem? (i := 980) (by decide +kernel)⟩
theorem lw_p63 : lw_okq (⟨"PassingTrackModel", "allWaits", "()I"⟩, 30) := ⟨⟨by decide +kernel, by decide +kernel⟩, List.mem_of_getElem? (i := 690) (by decide +kernel), List.mem_of_getElem? (i := 983) (by decide +kernel), List.mem_of_getElem? (i := 984) (by decide +kernel)⟩
def lw_privs_4 : List (MethodName × Nat) := [(⟨"PassingTrackModel", "isReady", "(II)Z"⟩, 30), (⟨"PassingTrackModel", "readyAt", "(I)I"⟩, 30), (⟨"PassingTrackModel", "whoIsOn", "(I)I"⟩, 30), (⟨"PassingTrackModel", "taken", "(I)I"⟩, 30), (⟨"PassingTrackModel", "goesAhead", "(II)Z"⟩, 30), (⟨"PassingTrackModel", "timeOf", "(II)I"⟩, 30), (⟨"PassingTrackModel", "waitAll", "(I)V"⟩, 30), (⟨"PassingTrackModel", "reason", "(I)I"⟩, 30), (⟨"PassingTrackModel", "ends", "(I)Z"⟩, 30), (⟨"PassingTrackModel", "endOf", "(I)I"⟩, 30), (⟨"PassingTrackModel", "delayOf", "(I)I"⟩, 30), (⟨"PassingTrackModel", "waited", "(I)I"⟩, 30), (⟨"PassingTrackModel", "blamed", "(I)I"⟩, 30), (⟨"PassingTrackModel", "delay", "()I"⟩, 30), (⟨"PassingTrackModel", "meetings", "()I"⟩, 30), (⟨"PassingTrackModel", "allWaits", "()I"⟩, 30)]
theorem lw_r4 : ∀ q ∈ lw_privs_4, lw_okq q := List.forall_mem_cons.mpr ⟨lw_p48, List.forall_mem_cons.mpr ⟨lw_p49, List.forall_mem_cons.mpr ⟨lw_p50, List.forall_mem_cons.mpr ⟨lw_p51, List.forall_mem_cons.mpr ⟨lw_p52, List.forall_mem_cons.mpr ⟨lw_p53, List.forall_mem_cons.mpr ⟨lw_p54, List.forall_mem_cons.mpr ⟨lw_p55, List.forall_mem_cons.mpr ⟨lw_p56, List.forall_mem_cons.mpr ⟨lw_p57, List.forall_mem_cons.mpr ⟨lw_p58, List.forall_mem_cons.mpr ⟨lw_p59, List.forall_mem_cons.mpr ⟨lw_p60, List.forall_mem_cons.mpr ⟨lw_p61, List.forall_mem_cons.mpr ⟨lw_p62, List.forall_mem_cons.mpr ⟨lw_p63, fun _ h => absurd h List.not_mem_nil⟩⟩⟩⟩⟩⟩⟩⟩⟩⟩⟩⟩⟩⟩⟩⟩
theorem lw_p64 : lw_okq (⟨"PassingTrackModel", "greatestDelay", "()I"⟩, 30) := ⟨⟨by decide +kernel, by decide +kernel⟩, List.mem_of_getElem? (i := 690) (by decide +kernel), List.mem_of_getElem? (i := 987) (by decide +kernel), List.mem_of_getElem? (i := 988) (by decide +kernel)⟩
theorem lw_p65 : lw_okq (⟨"PassingTrackModel", "placeIn", "(II)I"⟩, 30) := ⟨⟨by decide +kernel, by decide +kernel⟩, List.mem_of_getElem? (i := 690) (by decide +kernel), List.mem_of_getElem? (i := 995) (by decide +kernel), List.mem_of_getElem? (i := 996) (by decide +kernel)⟩
theorem lw_p66 : lw_okq (⟨"PassingTrackModel", "stationIn", "(II)I"⟩, 30) := ⟨⟨by decide +kernel, by decide +kernel⟩, List.mem_of_getElem? (i := 690) (by decide +kernel), List.mem_of_getElem? (i := 999) (by decide +kernel), List.mem_of_getElem? (i := 1000) (by decide +kernel)⟩
theorem lw_p67 : lw_okq (⟨"PassingTrackModel", "hasLeft", "(III)Z"⟩, 30) := ⟨⟨by decide +kernel, by decide +kernel⟩, List.mem_of_getElem? (i := 690) (by decide +kernel), List.mem_of_getElem? (i := 1003) (by decide +kernel), List.mem_of_getElem? (i := 1004) (by decide +kernel)⟩
theorem lw_p68 : lw_okq (⟨"PassingTrackModel", "reasonIn", "(II)I"⟩, 30) := ⟨⟨by decide +kernel, by decide +kernel⟩, List.mem_of_getElem? (i := 690) (by decide +kernel), List.mem_of_getElem? (i := 1015) (by decide +kernel), List.mem_of_getElem? (i := 1016) (by decide +kernel)⟩
theorem lw_p69 : lw_okq (⟨"PassingTrackModel", "ahead", "(I)I"⟩, 30) := ⟨⟨by decide +kernel, by decide +kernel⟩, List.mem_of_getElem? (i := 690) (by decide +kernel), List.mem_of_getElem? (i := 1023) (by decide +kernel), List.mem_of_getElem? (i := 1024) (by decide +kernel)⟩
theorem lw_p70 : lw_okq (⟨"PassingTrackModel", "isAhead", "(II)Z"⟩, 30) := ⟨⟨by decide +kernel, by decide +kernel⟩, List.mem_of_getElem? (i := 690) (by decide +kernel), List.mem_of_getElem? (i := 1027) (by decide +kernel), List.mem_of_getElem? (i := 1028) (by decide +kernel)⟩
theorem lw_p71 : lw_okq (⟨"PassingTrackModel", "layAside", "()V"⟩, 30) := ⟨⟨by decide +kernel, by decide +kernel⟩, List.mem_of_getElem? (i := 690) (by decide +kernel), List.mem_of_getElem? (i := 1035) (by decide +kernel), List.mem_of_getElem? (i := 1036) (by decide +kernel)⟩
theorem lw_p72 : lw_okq (⟨"PassingTrackModel", "delayNow", "()I"⟩, 30) := ⟨⟨by decide +kernel, by decide +kernel⟩, List.mem_of_getElem? (i := 690) (by decide +kernel), List.mem_of_getElem? (i := 1039) (by decide +kernel), List.mem_of_getElem? (i := 1040) (by decide +kernel)⟩
theorem lw_p73 : lw_okq (⟨"PassingTrackModel", "layBack", "()V"⟩, 30) := ⟨⟨by decide +kernel, by decide +kernel⟩, List.mem_of_getElem? (i := 690) (by decide +kernel), List.mem_of_getElem? (i := 1043) (by decide +kernel), List.mem_of_getElem? (i := 1044) (by decide +kernel)⟩
theorem lw_p74 : lw_okq (⟨"PassingTrackModel", "orders", "()I"⟩, 30) := ⟨⟨by decide +kernel, by decide +kernel⟩, List.mem_of_getElem? (i := 690) (by decide +kernel), List.mem_of_getElem? (i := 1059) (by decide +kernel), List.mem_of_getElem? (i := 1060) (by decide +kernel)⟩
theorem lw_p75 : lw_okq (⟨"PassingTrackModel", "layOrder", "(I)Z"⟩, 30) := ⟨⟨by decide +kernel, by decide +kernel⟩, List.mem_of_getElem? (i := 690) (by decide +kernel), List.mem_of_getElem? (i := 1063) (by decide +kernel), List.mem_of_getElem? (i := 1064) (by decide +kernel)⟩
theorem lw_p76 : lw_okq (⟨"PassingTrackModel", "delayInOrder", "()I"⟩, 30) := ⟨⟨by decide +kernel, by decide +kernel⟩, List.mem_of_getElem? (i := 690) (by decide +kernel), List.mem_of_getElem? (i := 1067) (by decide +kernel), List.mem_of_getElem? (i := 1068) (by decide +kernel)⟩
theorem lw_p77 : lw_okq (⟨"PassingTrackModel", "takeOrder", "()V"⟩, 30) := ⟨⟨by decide +kernel, by decide +kernel⟩, List.mem_of_getElem? (i := 690) (by decide +kernel), List.mem_of_getElem? (i := 1084) (by decide +kernel), List.mem_of_getElem? (i := 1085) (by decide +kernel)⟩
theorem lw_p78 : lw_okq (⟨"PassingTrackModel", "next", "()I"⟩, 30) := ⟨⟨by decide +kernel, by decide +kernel⟩, List.mem_of_getElem? (i := 690) (by decide +kernel), List.mem_of_getElem? (i := 1088) (by decide +kernel), List.mem_of_getElem? (i := 1089) (by decide +kernel)⟩
theorem lw_p79 : lw_okq (⟨"PassingTrackModel", "takeShuttle", "()V"⟩, 30) := ⟨⟨by decide +kernel, by decide +kernel⟩, List.mem_of_getElem? (i := 690) (by decide +kernel), List.mem_of_getElem? (i := 1092) (by decide +kernel), List.mem_of_getElem? (i := 1093) (by decide +kernel)⟩
def lw_privs_5 : List (MethodName × Nat) := [(⟨"PassingTrackModel", "greatestDelay", "()I"⟩, 30), (⟨"PassingTrackModel", "placeIn", "(II)I"⟩, 30), (⟨"PassingTrackModel", "stationIn", "(II)I"⟩, 30), (⟨"PassingTrackModel", "hasLeft", "(III)Z"⟩, 30), (⟨"PassingTrackModel", "reasonIn", "(II)I"⟩, 30), (⟨"PassingTrackModel", "ahead", "(I)I"⟩, 30), (⟨"PassingTrackModel", "isAhead", "(II)Z"⟩, 30), (⟨"PassingTrackModel", "layAside", "()V"⟩, 30), (⟨"PassingTrackModel", "delayNow", "()I"⟩, 30), (⟨"PassingTrackModel", "layBack", "()V"⟩, 30), (⟨"PassingTrackModel", "orders", "()I"⟩, 30), (⟨"PassingTrackModel", "layOrder", "(I)Z"⟩, 30), (⟨"PassingTrackModel", "delayInOrder", "()I"⟩, 30), (⟨"PassingTrackModel", "takeOrder", "()V"⟩, 30), (⟨"PassingTrackModel", "next", "()I"⟩, 30), (⟨"PassingTrackModel", "takeShuttle", "()V"⟩, 30)]
theorem lw_r5 : ∀ q ∈ lw_privs_5, lw_okq q := List.forall_mem_cons.mpr ⟨lw_p64, List.forall_mem_cons.mpr ⟨lw_p65, List.forall_mem_cons.mpr ⟨lw_p66, List.forall_mem_cons.mpr ⟨lw_p67, List.forall_mem_cons.mpr ⟨lw_p68, List.forall_mem_cons.mpr ⟨lw_p69, List.forall_mem_cons.mpr ⟨lw_p70, List.forall_mem_cons.mpr ⟨lw_p71, List.forall_mem_cons.mpr ⟨lw_p72, List.forall_mem_cons.mpr ⟨lw_p73, List.forall_mem_cons.mpr ⟨lw_p74, List.forall_mem_cons.mpr ⟨lw_p75, List.forall_mem_cons.mpr ⟨lw_p76, List.forall_mem_cons.mpr ⟨lw_p77, List.forall_mem_cons.mpr ⟨lw_p78, List.forall_mem_cons.mpr ⟨lw_p79, fun _ h => absurd h List.not_mem_nil⟩⟩⟩⟩⟩⟩⟩⟩⟩⟩⟩⟩⟩⟩⟩⟩
theorem lw_p80 : lw_okq (⟨"PassingTrackModel", "takeOne", "(II)V"⟩, 30) := ⟨⟨by decide +kernel, by decide +kernel⟩, List.mem_of_getElem? (i := 690) (by decide +kernel), List.mem_of_getElem? (i := 1096) (by decide +kernel), List.mem_of_getElem? (i := 1097) (by decide +kernel)⟩
theorem lw_p81 : lw_okq (⟨"PassingTrackModel", "takeSign", "(I)V"⟩, 30) := ⟨⟨by decide +kernel, by decide +kernel⟩, List.mem_of_getElem? (i := 690) (by decide +kernel), List.mem_of_getElem? (i := 1100) (by decide +kernel), List.mem_of_getElem? (i := 1101) (by decide +kernel)⟩
theorem lw_p82 : lw_okq (⟨"PassingTrackModel", "takeNumber", "(I)V"⟩, 30) := ⟨⟨by decide +kernel, by decide +kernel⟩, List.mem_of_getElem? (i := 690) (by decide +kernel), List.mem_of_getElem? (i := 1104) (by decide +kernel), List.mem_of_getElem? (i := 1105) (by decide +kernel)⟩
theorem lw_p83 : lw_okq (⟨"PassingTrackModel", "carry", "(I)I"⟩, 30) := ⟨⟨by decide +kernel, by decide +kernel⟩, List.mem_of_getElem? (i := 690) (by decide +kernel), List.mem_of_getElem? (i := 1113) (by decide +kernel), List.mem_of_getElem? (i := 1114) (by decide +kernel)⟩
def lw_privs_6 : List (MethodName × Nat) := [(⟨"PassingTrackModel", "takeOne", "(II)V"⟩, 30), (⟨"PassingTrackModel", "takeSign", "(I)V"⟩, 30), (⟨"PassingTrackModel", "takeNumber", "(I)V"⟩, 30), (⟨"PassingTrackModel", "carry", "(I)I"⟩, 30)]
theorem lw_r6 : ∀ q ∈ lw_privs_6, lw_okq q := List.forall_mem_cons.mpr ⟨lw_p80, List.forall_mem_cons.mpr ⟨lw_p81, List.forall_mem_cons.mpr ⟨lw_p82, List.forall_mem_cons.mpr ⟨lw_p83, fun _ h => absurd h List.not_mem_nil⟩⟩⟩⟩
def lw_privs : List (MethodName × Nat) := lw_privs_1 ++ (lw_privs_2 ++ (lw_privs_3 ++ (lw_privs_4 ++ (lw_privs_5 ++ (lw_privs_6)))))
def lw_tbl : List Cond := k2_sels lw_privs ++ tables_1
theorem lw_privs_ok : ∀ q ∈ lw_privs, lw_okq q := by
  show ∀ q ∈ lw_privs_1 ++ (lw_privs_2 ++ (lw_privs_3 ++ (lw_privs_4 ++ (lw_privs_5 ++ (lw_privs_6))))), lw_okq q
  exact List.forall_mem_append.mpr ⟨lw_r1, List.forall_mem_append.mpr ⟨lw_r2, List.forall_mem_append.mpr ⟨lw_r3, List.forall_mem_append.mpr ⟨lw_r4, List.forall_mem_append.mpr ⟨lw_r5, lw_r6⟩⟩⟩⟩⟩
end
section
def RX0 : String := "PassingTrack$Day"
def TX0 : u_T := fun k => match k with
  | 0 => ("PassingTrack$Day", "line", "LPassingTrack$Line;", true)
  | 1 => ("PassingTrack$Day", "comes", "[[I", true)
  | 2 => ("PassingTrack$Day", "leaves", "[[I", true)
  | 3 => ("PassingTrack$Day", "last", "I", false)
  | 4 => ("PassingTrack$Day", "stuck", "I", false)
  | 5 => ("PassingTrack$Day", "station", "[I", true)
  | 6 => ("PassingTrack$Day", "rides", "[Z", true)
  | 7 => ("PassingTrack$Day", "due", "[I", true)
  | 8 => ("PassingTrack$Day", "urgency", "[I", true)
  | 9 => ("PassingTrack$Day", "busy", "[Z", true)
  | _ => ("PassingTrack$Day", "held", "[I", true)
def tyX0 : Nat → FieldType := fun k => match k with
  | 0 => .object "PassingTrack$Line"
  | 1 => .array (.array .int)
  | 2 => .array (.array .int)
  | 3 => .int
  | 4 => .int
  | 5 => .array .int
  | 6 => .array .boolean
  | 7 => .array .int
  | 8 => .array .int
  | 9 => .array .boolean
  | _ => .array .int
theorem nmX0 : ∀ a, a < 11 → ∀ b, b < 11 → a ≠ b → (TX0 a).2.1 ≠ (TX0 b).2.1 := by decide +kernel
theorem tyX0_ok : ∀ k, k < 11 → parseFieldDescriptor (TX0 k).2.2.1 = some (tyX0 k) := by decide +kernel
abbrev cX0_init : ByteArray := prog_2_method_1_code
def yX0_init : MethodName := ⟨RX0, "<init>", "()V"⟩
abbrev cX0_run : ByteArray := prog_2_method_2_code
def yX0_run : MethodName := ⟨RX0, "run", "()V"⟩
abbrev cX0_putOutside : ByteArray := prog_2_method_3_code
def yX0_putOutside : MethodName := ⟨RX0, "putOutside", "()V"⟩
abbrev cX0_stand : ByteArray := prog_2_method_4_code
def yX0_stand : MethodName := ⟨RX0, "stand", "(III)V"⟩
abbrev cX0_isAtEnd : ByteArray := prog_2_method_5_code
def yX0_isAtEnd : MethodName := ⟨RX0, "isAtEnd", "(I)Z"⟩
abbrev cX0_comeIn : ByteArray := prog_2_method_6_code
def yX0_comeIn : MethodName := ⟨RX0, "comeIn", "(I)V"⟩
abbrev cX0_letLeave : ByteArray := prog_2_method_7_code
def yX0_letLeave : MethodName := ⟨RX0, "letLeave", "(I)V"⟩
abbrev cX0_firstToLeave : ByteArray := prog_2_method_8_code
def yX0_firstToLeave : MethodName := ⟨RX0, "firstToLeave", "(I)I"⟩
abbrev cX0_canLeave : ByteArray := prog_2_method_9_code
def yX0_canLeave : MethodName := ⟨RX0, "canLeave", "(II)Z"⟩
abbrev cX0_goesBefore : ByteArray := prog_2_method_10_code
def yX0_goesBefore : MethodName := ⟨RX0, "goesBefore", "(II)Z"⟩
abbrev cX0_leave : ByteArray := prog_2_method_11_code
def yX0_leave : MethodName := ⟨RX0, "leave", "(II)V"⟩
abbrev cX0_nextEvent : ByteArray := prog_2_method_12_code
def yX0_nextEvent : MethodName := ⟨RX0, "nextEvent", "(I)I"⟩
abbrev cX0_notAtEnd : ByteArray := prog_2_method_13_code
def yX0_notAtEnd : MethodName := ⟨RX0, "notAtEnd", "()I"⟩
abbrev cX0_endMinute : ByteArray := prog_2_method_14_code
def yX0_endMinute : MethodName := ⟨RX0, "endMinute", "(I)I"⟩
abbrev cX0_delayOf : ByteArray := prog_2_method_15_code
def yX0_delayOf : MethodName := ⟨RX0, "delayOf", "(I)I"⟩
abbrev cX0_delay : ByteArray := prog_2_method_16_code
def yX0_delay : MethodName := ⟨RX0, "delay", "()I"⟩
abbrev cX0_greatestDelay : ByteArray := prog_2_method_17_code
def yX0_greatestDelay : MethodName := ⟨RX0, "greatestDelay", "()I"⟩
abbrev cX0_wasOnTrack : ByteArray := prog_2_method_18_code
def yX0_wasOnTrack : MethodName := ⟨RX0, "wasOnTrack", "(II)Z"⟩
abbrev cX0_stoodAt : ByteArray := prog_2_method_19_code
def yX0_stoodAt : MethodName := ⟨RX0, "stoodAt", "(II)Z"⟩
abbrev cX0_readyAt : ByteArray := prog_2_method_20_code
def yX0_readyAt : MethodName := ⟨RX0, "readyAt", "(II)I"⟩
abbrev cX0_goneFrom : ByteArray := prog_2_method_21_code
def yX0_goneFrom : MethodName := ⟨RX0, "goneFrom", "(II)I"⟩
abbrev cX0_waitedMinutes : ByteArray := prog_2_method_22_code
def yX0_waitedMinutes : MethodName := ⟨RX0, "waitedMinutes", "()I"⟩
abbrev cX0_placeAt : ByteArray := prog_2_method_23_code
def yX0_placeAt : MethodName := ⟨RX0, "placeAt", "(II)I"⟩
abbrev cX0_reasonAt : ByteArray := prog_2_method_24_code
def yX0_reasonAt : MethodName := ⟨RX0, "reasonAt", "(II)I"⟩
abbrev cX0_reasonFor : ByteArray := prog_2_method_25_code
def yX0_reasonFor : MethodName := ⟨RX0, "reasonFor", "(II)I"⟩
abbrev cX0_minutesOn : ByteArray := prog_2_method_26_code
def yX0_minutesOn : MethodName := ⟨RX0, "minutesOn", "(IIII)I"⟩
def RX1 : String := "PassingTrack$History"
def TX1 : u_T := fun k => match k with
  | 0 => ("PassingTrack$History", "kept", "I", false)
  | _ => ("PassingTrack$History", "states", "[LPassingTrack$Line;", true)
def tyX1 : Nat → FieldType := fun k => match k with
  | 0 => .int
  | _ => .array (.object "PassingTrack$Line")
theorem nmX1 : ∀ a, a < 2 → ∀ b, b < 2 → a ≠ b → (TX1 a).2.1 ≠ (TX1 b).2.1 := by decide +kernel
theorem tyX1_ok : ∀ k, k < 2 → parseFieldDescriptor (TX1 k).2.2.1 = some (tyX1 k) := by decide +kernel
abbrev cX1_init : ByteArray := prog_3_method_1_code
def yX1_init : MethodName := ⟨RX1, "<init>", "()V"⟩
abbrev cX1_keep : ByteArray := prog_3_method_2_code
def yX1_keep : MethodName := ⟨RX1, "keep", "(LPassingTrack$Line;)V"⟩
abbrev cX1_dropOldest : ByteArray := prog_3_method_3_code
def yX1_dropOldest : MethodName := ⟨RX1, "dropOldest", "()V"⟩
abbrev cX1_giveBack : ByteArray := prog_3_method_4_code
def yX1_giveBack : MethodName := ⟨RX1, "giveBack", "(LPassingTrack$Line;)I"⟩
def RX2 : String := "PassingTrack$Line"
def TX2 : u_T := fun k => match k with
  | 0 => ("PassingTrack$Line", "tracksOf", "[I", true)
  | 1 => ("PassingTrack$Line", "runningOf", "[I", true)
  | 2 => ("PassingTrack$Line", "begin", "[I", true)
  | 3 => ("PassingTrack$Line", "end", "[I", true)
  | 4 => ("PassingTrack$Line", "earliest", "[I", true)
  | 5 => ("PassingTrack$Line", "stop", "[I", true)
  | 6 => ("PassingTrack$Line", "priority", "[I", true)
  | 7 => ("PassingTrack$Line", "shuttles", "I", false)
  | _ => ("PassingTrack$Line", "whoGoesFirst", "I", false)
def tyX2 : Nat → FieldType := fun k => match k with
  | 0 => .array .int
  | 1 => .array .int
  | 2 => .array .int
  | 3 => .array .int
  | 4 => .array .int
  | 5 => .array .int
  | 6 => .array .int
  | 7 => .int
  | _ => .int
theorem nmX2 : ∀ a, a < 9 → ∀ b, b < 9 → a ≠ b → (TX2 a).2.1 ≠ (TX2 b).2.1 := by decide +kernel
theorem tyX2_ok : ∀ k, k < 9 → parseFieldDescriptor (TX2 k).2.2.1 = some (tyX2 k) := by decide +kernel
abbrev cX2_init : ByteArray := prog_4_method_1_code
def yX2_init : MethodName := ⟨RX2, "<init>", "()V"⟩
abbrev cX2_copyFrom : ByteArray := prog_4_method_2_code
def yX2_copyFrom : MethodName := ⟨RX2, "copyFrom", "(LPassingTrack$Line;)V"⟩
abbrev cX2_hasShuttle : ByteArray := prog_4_method_3_code
def yX2_hasShuttle : MethodName := ⟨RX2, "hasShuttle", "(I)Z"⟩
abbrev cX2_setFirst : ByteArray := prog_4_method_4_code
def yX2_setFirst : MethodName := ⟨RX2, "setFirst", "(I)I"⟩
abbrev cX2_setTracks : ByteArray := prog_4_method_5_code
def yX2_setTracks : MethodName := ⟨RX2, "setTracks", "(II)I"⟩
abbrev cX2_setRunning : ByteArray := prog_4_method_6_code
def yX2_setRunning : MethodName := ⟨RX2, "setRunning", "(II)I"⟩
abbrev cX2_addShuttle : ByteArray := prog_4_method_7_code
def yX2_addShuttle : MethodName := ⟨RX2, "addShuttle", "(IIIII)I"⟩
abbrev cX2_startLater : ByteArray := prog_4_method_8_code
def yX2_startLater : MethodName := ⟨RX2, "startLater", "(II)I"⟩
abbrev cX2_setPriority : ByteArray := prog_4_method_9_code
def yX2_setPriority : MethodName := ⟨RX2, "setPriority", "(II)I"⟩
abbrev cX2_takeAway : ByteArray := prog_4_method_10_code
def yX2_takeAway : MethodName := ⟨RX2, "takeAway", "(I)I"⟩
abbrev cX2_number : ByteArray := prog_4_method_11_code
def yX2_number : MethodName := ⟨RX2, "number", "(II)I"⟩
abbrev cX2_goesUp : ByteArray := prog_4_method_12_code
def yX2_goesUp : MethodName := ⟨RX2, "goesUp", "(I)Z"⟩
abbrev cX2_nextStation : ByteArray := prog_4_method_13_code
def yX2_nextStation : MethodName := ⟨RX2, "nextStation", "(II)I"⟩
abbrev cX2_stretchAhead : ByteArray := prog_4_method_14_code
def yX2_stretchAhead : MethodName := ⟨RX2, "stretchAhead", "(II)I"⟩
abbrev cX2_wayLeft : ByteArray := prog_4_method_15_code
def yX2_wayLeft : MethodName := ⟨RX2, "wayLeft", "(II)I"⟩
def RX3 : String := "PassingTrack$Meetings"
def TX3 : u_T := fun k => match k with
  | 0 => ("PassingTrack$Meetings", "rows", "[I", true)
  | _ => ("PassingTrack$Meetings", "number", "I", false)
def tyX3 : Nat → FieldType := fun k => match k with
  | 0 => .array .int
  | _ => .int
theorem nmX3 : ∀ a, a < 2 → ∀ b, b < 2 → a ≠ b → (TX3 a).2.1 ≠ (TX3 b).2.1 := by decide +kernel
theorem tyX3_ok : ∀ k, k < 2 → parseFieldDescriptor (TX3 k).2.2.1 = some (tyX3 k) := by decide +kernel
abbrev cX3_init : ByteArray := prog_5_method_1_code
def yX3_init : MethodName := ⟨RX3, "<init>", "()V"⟩
abbrev cX3_gather : ByteArray := prog_5_method_2_code
def yX3_gather : MethodName := ⟨RX3, "gather", "(LPassingTrack$Day;)V"⟩
abbrev cX3_gatherPair : ByteArray := prog_5_method_3_code
def yX3_gatherPair : MethodName := ⟨RX3, "gatherPair", "(LPassingTrack$Day;II)V"⟩
abbrev cX3_isThere : ByteArray := prog_5_method_4_code
def yX3_isThere : MethodName := ⟨RX3, "isThere", "(LPassingTrack$Day;III)Z"⟩
abbrev cX3_insert : ByteArray := prog_5_method_5_code
def yX3_insert : MethodName := ⟨RX3, "insert", "(I)V"⟩
abbrev cX3_part : ByteArray := prog_5_method_6_code
def yX3_part : MethodName := ⟨RX3, "part", "(II)I"⟩
def RX4 : String := "PassingTrack$Orders"
def TX4 : u_T := fun k => match k with
  | 0 => ("PassingTrack$Orders", "best", "[I", true)
  | 1 => ("PassingTrack$Orders", "bestDelay", "I", false)
  | _ => ("PassingTrack$Orders", "order", "[I", true)
def tyX4 : Nat → FieldType := fun k => match k with
  | 0 => .array .int
  | 1 => .int
  | _ => .array .int
theorem nmX4 : ∀ a, a < 3 → ∀ b, b < 3 → a ≠ b → (TX4 a).2.1 ≠ (TX4 b).2.1 := by decide +kernel
theorem tyX4_ok : ∀ k, k < 3 → parseFieldDescriptor (TX4 k).2.2.1 = some (tyX4 k) := by decide +kernel
abbrev cX4_init : ByteArray := prog_6_method_1_code
def yX4_init : MethodName := ⟨RX4, "<init>", "()V"⟩
abbrev cX4_tryAll : ByteArray := prog_6_method_2_code
def yX4_tryAll : MethodName := ⟨RX4, "tryAll", "(LPassingTrack$Day;)V"⟩
abbrev cX4_keepIfBetter : ByteArray := prog_6_method_3_code
def yX4_keepIfBetter : MethodName := ⟨RX4, "keepIfBetter", "(II)V"⟩
abbrev cX4_nextOrder : ByteArray := prog_6_method_4_code
def yX4_nextOrder : MethodName := ⟨RX4, "nextOrder", "(I)Z"⟩
abbrev cX4_swap : ByteArray := prog_6_method_5_code
def yX4_swap : MethodName := ⟨RX4, "swap", "(II)V"⟩
def RX5 : String := "PassingTrack$Pad"
def TX5 : u_T := fun k => match k with
  | 0 => ("PassingTrack$Pad", "length", "I", false)
  | 1 => ("PassingTrack$Pad", "text", "[C", true)
  | 2 => ("PassingTrack$Pad", "next", "I", false)
  | 3 => ("PassingTrack$Pad", "kind", "I", false)
  | _ => ("PassingTrack$Pad", "numbers", "[I", true)
def tyX5 : Nat → FieldType := fun k => match k with
  | 0 => .int
  | 1 => .array .char
  | 2 => .int
  | 3 => .int
  | _ => .array .int
theorem nmX5 : ∀ a, a < 5 → ∀ b, b < 5 → a ≠ b → (TX5 a).2.1 ≠ (TX5 b).2.1 := by decide +kernel
theorem tyX5_ok : ∀ k, k < 5 → parseFieldDescriptor (TX5 k).2.2.1 = some (tyX5 k) := by decide +kernel
abbrev cX5_init : ByteArray := prog_7_method_1_code
def yX5_init : MethodName := ⟨RX5, "<init>", "()V"⟩
abbrev cX5_charactersIn : ByteArray := prog_7_method_2_code
def yX5_charactersIn : MethodName := ⟨RX5, "charactersIn", "(J)I"⟩
abbrev cX5_append : ByteArray := prog_7_method_3_code
def yX5_append : MethodName := ⟨RX5, "append", "(JI)I"⟩
abbrev cX5_empty : ByteArray := prog_7_method_4_code
def yX5_empty : MethodName := ⟨RX5, "empty", "()I"⟩
abbrev cX5_findFault : ByteArray := prog_7_method_5_code
def yX5_findFault : MethodName := ⟨RX5, "findFault", "()I"⟩
abbrev cX5_obey : ByteArray := prog_7_method_6_code
def yX5_obey : MethodName := ⟨RX5, "obey", "(LPassingTrack$Line;)I"⟩
abbrev cX5_obeyOrder : ByteArray := prog_7_method_7_code
def yX5_obeyOrder : MethodName := ⟨RX5, "obeyOrder", "(LPassingTrack$Line;)I"⟩
abbrev cX5_readOrder : ByteArray := prog_7_method_8_code
def yX5_readOrder : MethodName := ⟨RX5, "readOrder", "()Z"⟩
abbrev cX5_readShuttle : ByteArray := prog_7_method_9_code
def yX5_readShuttle : MethodName := ⟨RX5, "readShuttle", "()Z"⟩
abbrev cX5_peek : ByteArray := prog_7_method_10_code
def yX5_peek : MethodName := ⟨RX5, "peek", "()I"⟩
abbrev cX5_readSign : ByteArray := prog_7_method_11_code
def yX5_readSign : MethodName := ⟨RX5, "readSign", "(C)Z"⟩
abbrev cX5_readDigit : ByteArray := prog_7_method_12_code
def yX5_readDigit : MethodName := ⟨RX5, "readDigit", "(II)Z"⟩
abbrev cX5_readNumber : ByteArray := prog_7_method_13_code
def yX5_readNumber : MethodName := ⟨RX5, "readNumber", "(I)Z"⟩
def RX6 : String := "PassingTrack$Waits"
def TX6 : u_T := fun k => match k with
  | 0 => ("PassingTrack$Waits", "reasons", "[I", true)
  | _ => ("PassingTrack$Waits", "blames", "[I", true)
def tyX6 : Nat → FieldType := fun k => match k with
  | 0 => .array .int
  | _ => .array .int
theorem nmX6 : ∀ a, a < 2 → ∀ b, b < 2 → a ≠ b → (TX6 a).2.1 ≠ (TX6 b).2.1 := by decide +kernel
theorem tyX6_ok : ∀ k, k < 2 → parseFieldDescriptor (TX6 k).2.2.1 = some (tyX6 k) := by decide +kernel
abbrev cX6_init : ByteArray := prog_8_method_1_code
def yX6_init : MethodName := ⟨RX6, "<init>", "()V"⟩
abbrev cX6_gather : ByteArray := prog_8_method_2_code
def yX6_gather : MethodName := ⟨RX6, "gather", "(LPassingTrack$Day;I)V"⟩
abbrev cX6_gatherAt : ByteArray := prog_8_method_3_code
def yX6_gatherAt : MethodName := ⟨RX6, "gatherAt", "(LPassingTrack$Day;II)V"⟩
abbrev cX6_forReason : ByteArray := prog_8_method_4_code
def yX6_forReason : MethodName := ⟨RX6, "forReason", "(I)I"⟩
abbrev cX6_total : ByteArray := prog_8_method_5_code
def yX6_total : MethodName := ⟨RX6, "total", "()I"⟩
abbrev cX6_mostBlamed : ByteArray := prog_8_method_6_code
def yX6_mostBlamed : MethodName := ⟨RX6, "mostBlamed", "()I"⟩
def RX7 : String := "PassingTrack"
def TX7 : u_T := fun k => match k with
  | 0 => ("PassingTrack", "day", "LPassingTrack$Day;", true)
  | 1 => ("PassingTrack", "line", "LPassingTrack$Line;", true)
  | 2 => ("PassingTrack", "trialDay", "LPassingTrack$Day;", true)
  | 3 => ("PassingTrack", "trial", "LPassingTrack$Line;", true)
  | 4 => ("PassingTrack", "before", "LPassingTrack$Line;", true)
  | 5 => ("PassingTrack", "waits", "LPassingTrack$Waits;", true)
  | 6 => ("PassingTrack", "meetings", "LPassingTrack$Meetings;", true)
  | 7 => ("PassingTrack", "orders", "LPassingTrack$Orders;", true)
  | 8 => ("PassingTrack", "pad", "LPassingTrack$Pad;", true)
  | 9 => ("PassingTrack", "history", "LPassingTrack$History;", true)
  | 10 => ("PassingTrack", "slots", "[LPassingTrack$Line;", true)
  | _ => ("PassingTrack", "saved", "[Z", true)
def tyX7 : Nat → FieldType := fun k => match k with
  | 0 => .object "PassingTrack$Day"
  | 1 => .object "PassingTrack$Line"
  | 2 => .object "PassingTrack$Day"
  | 3 => .object "PassingTrack$Line"
  | 4 => .object "PassingTrack$Line"
  | 5 => .object "PassingTrack$Waits"
  | 6 => .object "PassingTrack$Meetings"
  | 7 => .object "PassingTrack$Orders"
  | 8 => .object "PassingTrack$Pad"
  | 9 => .object "PassingTrack$History"
  | 10 => .array (.object "PassingTrack$Line")
  | _ => .array .boolean
theorem nmX7 : ∀ a, a < 12 → ∀ b, b < 12 → a ≠ b → (TX7 a).2.1 ≠ (TX7 b).2.1 := by decide +kernel
theorem tyX7_ok : ∀ k, k < 12 → parseFieldDescriptor (TX7 k).2.2.1 = some (tyX7 k) := by decide +kernel
abbrev cX7_init : ByteArray := prog_1_method_1_code
def yX7_init : MethodName := ⟨RX7, "<init>", "()V"⟩
abbrev cX7_first : ByteArray := prog_1_method_2_code
def yX7_first : MethodName := ⟨RX7, "first", "(I)I"⟩
abbrev cX7_tracks : ByteArray := prog_1_method_3_code
def yX7_tracks : MethodName := ⟨RX7, "tracks", "(II)I"⟩
abbrev cX7_running : ByteArray := prog_1_method_4_code
def yX7_running : MethodName := ⟨RX7, "running", "(II)I"⟩
abbrev cX7_shuttle : ByteArray := prog_1_method_5_code
def yX7_shuttle : MethodName := ⟨RX7, "shuttle", "(IIIII)I"⟩
abbrev cX7_late : ByteArray := prog_1_method_6_code
def yX7_late : MethodName := ⟨RX7, "late", "(II)I"⟩
abbrev cX7_prefer : ByteArray := prog_1_method_7_code
def yX7_prefer : MethodName := ⟨RX7, "prefer", "(II)I"⟩
abbrev cX7_remove : ByteArray := prog_1_method_8_code
def yX7_remove : MethodName := ⟨RX7, "remove", "(I)I"⟩
abbrev cX7_changed : ByteArray := prog_1_method_9_code
def yX7_changed : MethodName := ⟨RX7, "changed", "(I)I"⟩
abbrev cX7_ofShuttle : ByteArray := prog_1_method_10_code
def yX7_ofShuttle : MethodName := ⟨RX7, "ofShuttle", "(II)I"⟩
abbrev cX7_count : ByteArray := prog_1_method_11_code
def yX7_count : MethodName := ⟨RX7, "count", "(I)I"⟩
abbrev cX7_day : ByteArray := prog_1_method_12_code
def yX7_day : MethodName := ⟨RX7, "day", "(I)I"⟩
abbrev cX7_at : ByteArray := prog_1_method_13_code
def yX7_at : MethodName := ⟨RX7, "at", "(II)I"⟩
abbrev cX7_when : ByteArray := prog_1_method_14_code
def yX7_when : MethodName := ⟨RX7, "when", "(III)I"⟩
abbrev cX7_why : ByteArray := prog_1_method_15_code
def yX7_why : MethodName := ⟨RX7, "why", "(II)I"⟩
abbrev cX7_meeting : ByteArray := prog_1_method_16_code
def yX7_meeting : MethodName := ⟨RX7, "meeting", "(II)I"⟩
abbrev cX7_delayIfLate : ByteArray := prog_1_method_17_code
def yX7_delayIfLate : MethodName := ⟨RX7, "delayIfLate", "(II)I"⟩
abbrev cX7_delayIfSlow : ByteArray := prog_1_method_18_code
def yX7_delayIfSlow : MethodName := ⟨RX7, "delayIfSlow", "(II)I"⟩
abbrev cX7_bestTrack : ByteArray := prog_1_method_19_code
def yX7_bestTrack : MethodName := ⟨RX7, "bestTrack", "(I)I"⟩
abbrev cX7_bestOrder : ByteArray := prog_1_method_20_code
def yX7_bestOrder : MethodName := ⟨RX7, "bestOrder", "(I)I"⟩
abbrev cX7_trialDelay : ByteArray := prog_1_method_21_code
def yX7_trialDelay : MethodName := ⟨RX7, "trialDelay", "()I"⟩
abbrev cX7_put : ByteArray := prog_1_method_22_code
def yX7_put : MethodName := ⟨RX7, "put", "(J)I"⟩
abbrev cX7_wipe : ByteArray := prog_1_method_23_code
def yX7_wipe : MethodName := ⟨RX7, "wipe", "()I"⟩
abbrev cX7_fault : ByteArray := prog_1_method_24_code
def yX7_fault : MethodName := ⟨RX7, "fault", "()I"⟩
abbrev cX7_carryOut : ByteArray := prog_1_method_25_code
def yX7_carryOut : MethodName := ⟨RX7, "carryOut", "()I"⟩
abbrev cX7_undo : ByteArray := prog_1_method_26_code
def yX7_undo : MethodName := ⟨RX7, "undo", "()I"⟩
abbrev cX7_save : ByteArray := prog_1_method_27_code
def yX7_save : MethodName := ⟨RX7, "save", "(I)I"⟩
abbrev cX7_restore : ByteArray := prog_1_method_28_code
def yX7_restore : MethodName := ⟨RX7, "restore", "(I)I"⟩
abbrev cX7_isSlot : ByteArray := prog_1_method_29_code
def yX7_isSlot : MethodName := ⟨RX7, "isSlot", "(I)Z"⟩
abbrev cX7_isStation : ByteArray := prog_1_method_30_code
def yX7_isStation : MethodName := ⟨RX7, "isStation", "(I)Z"⟩
abbrev cX7_isStretch : ByteArray := prog_1_method_31_code
def yX7_isStretch : MethodName := ⟨RX7, "isStretch", "(I)Z"⟩
def RX8 : String := "PassingTrackModel"
def TX8 : u_T := fun k => match k with
  | 0 => ("PassingTrackModel", "at", "[I", true)
  | 1 => ("PassingTrackModel", "past", "[I", true)
  | 2 => ("PassingTrackModel", "pastFirst", "I", false)
  | 3 => ("PassingTrackModel", "pastMany", "I", false)
  | 4 => ("PassingTrackModel", "slots", "[I", true)
  | 5 => ("PassingTrackModel", "isSaved", "[Z", true)
  | 6 => ("PassingTrackModel", "aside", "[I", true)
  | 7 => ("PassingTrackModel", "where", "[I", true)
  | 8 => ("PassingTrackModel", "place", "[I", true)
  | 9 => ("PassingTrackModel", "since", "[I", true)
  | 10 => ("PassingTrackModel", "comes", "[I", true)
  | 11 => ("PassingTrackModel", "readies", "[I", true)
  | 12 => ("PassingTrackModel", "leaves", "[I", true)
  | 13 => ("PassingTrackModel", "meets", "[I", true)
  | 14 => ("PassingTrackModel", "meetsAt", "[I", true)
  | 15 => ("PassingTrackModel", "blames", "[I", true)
  | 16 => ("PassingTrackModel", "waits", "[I", true)
  | 17 => ("PassingTrackModel", "last", "I", false)
  | 18 => ("PassingTrackModel", "stuck", "I", false)
  | 19 => ("PassingTrackModel", "ran", "[I", true)
  | 20 => ("PassingTrackModel", "hasRun", "Z", false)
  | 21 => ("PassingTrackModel", "order", "[I", true)
  | 22 => ("PassingTrackModel", "bestOne", "[I", true)
  | 23 => ("PassingTrackModel", "pad", "[I", true)
  | 24 => ("PassingTrackModel", "padMany", "I", false)
  | 25 => ("PassingTrackModel", "spot", "I", false)
  | 26 => ("PassingTrackModel", "isWrong", "Z", false)
  | 27 => ("PassingTrackModel", "read", "I", false)
  | 28 => ("PassingTrackModel", "sort", "[I", true)
  | _ => ("PassingTrackModel", "numbers", "[I", true)
def tyX8 : Nat → FieldType := fun k => match k with
  | 0 => .array .int
  | 1 => .array .int
  | 2 => .int
  | 3 => .int
  | 4 => .array .int
  | 5 => .array .boolean
  | 6 => .array .int
  | 7 => .array .int
  | 8 => .array .int
  | 9 => .array .int
  | 10 => .array .int
  | 11 => .array .int
  | 12 => .array .int
  | 13 => .array .int
  | 14 => .array .int
  | 15 => .array .int
  | 16 => .array .int
  | 17 => .int
  | 18 => .int
  | 19 => .array .int
  | 20 => .boolean
  | 21 => .array .int
  | 22 => .array .int
  | 23 => .array .int
  | 24 => .int
  | 25 => .int
  | 26 => .boolean
  | 27 => .int
  | 28 => .array .int
  | _ => .array .int
theorem nmX8 : ∀ a, a < 30 → ∀ b, b < 30 → a ≠ b → (TX8 a).2.1 ≠ (TX8 b).2.1 := by decide +kernel
theorem tyX8_ok : ∀ k, k < 30 → parseFieldDescriptor (TX8 k).2.2.1 = some (tyX8 k) := by decide +kernel
abbrev cX8_init : ByteArray := prog_10_method_1_code
def yX8_init : MethodName := ⟨RX8, "<init>", "()V"⟩
abbrev cX8_in : ByteArray := prog_10_method_3_code
def yX8_in : MethodName := ⟨RX8, "in", "(III)Z"⟩
abbrev cX8_isStation : ByteArray := prog_10_method_4_code
def yX8_isStation : MethodName := ⟨RX8, "isStation", "(I)Z"⟩
abbrev cX8_isShuttle : ByteArray := prog_10_method_5_code
def yX8_isShuttle : MethodName := ⟨RX8, "isShuttle", "(I)Z"⟩
abbrev cX8_of : ByteArray := prog_10_method_6_code
def yX8_of : MethodName := ⟨RX8, "of", "(II)I"⟩
abbrev cX8_way : ByteArray := prog_10_method_7_code
def yX8_way : MethodName := ⟨RX8, "way", "(I)I"⟩
abbrev cX8_keep : ByteArray := prog_10_method_8_code
def yX8_keep : MethodName := ⟨RX8, "keep", "()V"⟩
abbrev cX8_keepIf : ByteArray := prog_10_method_9_code
def yX8_keepIf : MethodName := ⟨RX8, "keepIf", "(Z)V"⟩
abbrev cX8_layAside : ByteArray := prog_10_method_10_code
def yX8_layAside : MethodName := ⟨RX8, "layAside", "()V"⟩
abbrev cX8_layBack : ByteArray := prog_10_method_11_code
def yX8_layBack : MethodName := ⟨RX8, "layBack", "()V"⟩
abbrev cX8_beginDay : ByteArray := prog_10_method_12_code
def yX8_beginDay : MethodName := ⟨RX8, "beginDay", "()V"⟩
abbrev cX8_stretchFrom : ByteArray := prog_10_method_13_code
def yX8_stretchFrom : MethodName := ⟨RX8, "stretchFrom", "(II)I"⟩
abbrev cX8_come : ByteArray := prog_10_method_14_code
def yX8_come : MethodName := ⟨RX8, "come", "(I)V"⟩
abbrev cX8_meet : ByteArray := prog_10_method_15_code
def yX8_meet : MethodName := ⟨RX8, "meet", "(I)V"⟩
abbrev cX8_readyAt : ByteArray := prog_10_method_16_code
def yX8_readyAt : MethodName := ⟨RX8, "readyAt", "(I)I"⟩
abbrev cX8_isReady : ByteArray := prog_10_method_17_code
def yX8_isReady : MethodName := ⟨RX8, "isReady", "(II)Z"⟩
abbrev cX8_whoIsOn : ByteArray := prog_10_method_18_code
def yX8_whoIsOn : MethodName := ⟨RX8, "whoIsOn", "(I)I"⟩
abbrev cX8_taken : ByteArray := prog_10_method_19_code
def yX8_taken : MethodName := ⟨RX8, "taken", "(I)I"⟩
abbrev cX8_canLeave : ByteArray := prog_10_method_20_code
def yX8_canLeave : MethodName := ⟨RX8, "canLeave", "(II)Z"⟩
abbrev cX8_timeOf : ByteArray := prog_10_method_21_code
def yX8_timeOf : MethodName := ⟨RX8, "timeOf", "(II)I"⟩
abbrev cX8_goesAhead : ByteArray := prog_10_method_22_code
def yX8_goesAhead : MethodName := ⟨RX8, "goesAhead", "(II)Z"⟩
abbrev cX8_nextToLeave : ByteArray := prog_10_method_23_code
def yX8_nextToLeave : MethodName := ⟨RX8, "nextToLeave", "(I)I"⟩
abbrev cX8_leave : ByteArray := prog_10_method_24_code
def yX8_leave : MethodName := ⟨RX8, "leave", "(I)V"⟩
abbrev cX8_reason : ByteArray := prog_10_method_25_code
def yX8_reason : MethodName := ⟨RX8, "reason", "(I)I"⟩
abbrev cX8_waitAll : ByteArray := prog_10_method_26_code
def yX8_waitAll : MethodName := ⟨RX8, "waitAll", "(I)V"⟩
abbrev cX8_ends : ByteArray := prog_10_method_27_code
def yX8_ends : MethodName := ⟨RX8, "ends", "(I)Z"⟩
abbrev cX8_isAsRun : ByteArray := prog_10_method_28_code
def yX8_isAsRun : MethodName := ⟨RX8, "isAsRun", "()Z"⟩
abbrev cX8_run : ByteArray := prog_10_method_29_code
def yX8_run : MethodName := ⟨RX8, "run", "()V"⟩
abbrev cX8_endOf : ByteArray := prog_10_method_30_code
def yX8_endOf : MethodName := ⟨RX8, "endOf", "(I)I"⟩
abbrev cX8_delayOf : ByteArray := prog_10_method_31_code
def yX8_delayOf : MethodName := ⟨RX8, "delayOf", "(I)I"⟩
abbrev cX8_delay : ByteArray := prog_10_method_32_code
def yX8_delay : MethodName := ⟨RX8, "delay", "()I"⟩
abbrev cX8_delayNow : ByteArray := prog_10_method_33_code
def yX8_delayNow : MethodName := ⟨RX8, "delayNow", "()I"⟩
abbrev cX8_first : ByteArray := prog_10_method_34_code
def yX8_first : MethodName := ⟨RX8, "first", "(I)I"⟩
abbrev cX8_change : ByteArray := prog_10_method_35_code
def yX8_change : MethodName := ⟨RX8, "change", "(IIZ)I"⟩
abbrev cX8_tryTracks : ByteArray := prog_10_method_36_code
def yX8_tryTracks : MethodName := ⟨RX8, "tryTracks", "(IIZ)I"⟩
abbrev cX8_tracks : ByteArray := prog_10_method_37_code
def yX8_tracks : MethodName := ⟨RX8, "tracks", "(II)I"⟩
abbrev cX8_whyNotRun : ByteArray := prog_10_method_38_code
def yX8_whyNotRun : MethodName := ⟨RX8, "whyNotRun", "(II)I"⟩
abbrev cX8_tryRunning : ByteArray := prog_10_method_39_code
def yX8_tryRunning : MethodName := ⟨RX8, "tryRunning", "(IIZ)I"⟩
abbrev cX8_running : ByteArray := prog_10_method_40_code
def yX8_running : MethodName := ⟨RX8, "running", "(II)I"⟩
abbrev cX8_tryShuttle : ByteArray := prog_10_method_41_code
def yX8_tryShuttle : MethodName := ⟨RX8, "tryShuttle", "(IIIIIZ)I"⟩
abbrev cX8_shuttle : ByteArray := prog_10_method_42_code
def yX8_shuttle : MethodName := ⟨RX8, "shuttle", "(IIIII)I"⟩
abbrev cX8_whyNotLate : ByteArray := prog_10_method_43_code
def yX8_whyNotLate : MethodName := ⟨RX8, "whyNotLate", "(II)I"⟩
abbrev cX8_tryLate : ByteArray := prog_10_method_44_code
def yX8_tryLate : MethodName := ⟨RX8, "tryLate", "(IIZ)I"⟩
abbrev cX8_late : ByteArray := prog_10_method_45_code
def yX8_late : MethodName := ⟨RX8, "late", "(II)I"⟩
abbrev cX8_tryPrefer : ByteArray := prog_10_method_46_code
def yX8_tryPrefer : MethodName := ⟨RX8, "tryPrefer", "(IIZ)I"⟩
abbrev cX8_prefer : ByteArray := prog_10_method_47_code
def yX8_prefer : MethodName := ⟨RX8, "prefer", "(II)I"⟩
abbrev cX8_tryRemove : ByteArray := prog_10_method_48_code
def yX8_tryRemove : MethodName := ⟨RX8, "tryRemove", "(IZ)I"⟩
abbrev cX8_remove : ByteArray := prog_10_method_49_code
def yX8_remove : MethodName := ⟨RX8, "remove", "(I)I"⟩
abbrev cX8_waited : ByteArray := prog_10_method_50_code
def yX8_waited : MethodName := ⟨RX8, "waited", "(I)I"⟩
abbrev cX8_blamed : ByteArray := prog_10_method_51_code
def yX8_blamed : MethodName := ⟨RX8, "blamed", "(I)I"⟩
abbrev cX8_ofShuttle : ByteArray := prog_10_method_52_code
def yX8_ofShuttle : MethodName := ⟨RX8, "ofShuttle", "(II)I"⟩
abbrev cX8_count : ByteArray := prog_10_method_53_code
def yX8_count : MethodName := ⟨RX8, "count", "(I)I"⟩
abbrev cX8_meetings : ByteArray := prog_10_method_54_code
def yX8_meetings : MethodName := ⟨RX8, "meetings", "()I"⟩
abbrev cX8_allWaits : ByteArray := prog_10_method_55_code
def yX8_allWaits : MethodName := ⟨RX8, "allWaits", "()I"⟩
abbrev cX8_greatestDelay : ByteArray := prog_10_method_56_code
def yX8_greatestDelay : MethodName := ⟨RX8, "greatestDelay", "()I"⟩
abbrev cX8_day : ByteArray := prog_10_method_57_code
def yX8_day : MethodName := ⟨RX8, "day", "(I)I"⟩
abbrev cX8_stationIn : ByteArray := prog_10_method_58_code
def yX8_stationIn : MethodName := ⟨RX8, "stationIn", "(II)I"⟩
abbrev cX8_hasLeft : ByteArray := prog_10_method_59_code
def yX8_hasLeft : MethodName := ⟨RX8, "hasLeft", "(III)Z"⟩
abbrev cX8_placeIn : ByteArray := prog_10_method_60_code
def yX8_placeIn : MethodName := ⟨RX8, "placeIn", "(II)I"⟩
abbrev cX8_at : ByteArray := prog_10_method_61_code
def yX8_at : MethodName := ⟨RX8, "at", "(II)I"⟩
abbrev cX8_when : ByteArray := prog_10_method_62_code
def yX8_when : MethodName := ⟨RX8, "when", "(III)I"⟩
abbrev cX8_reasonIn : ByteArray := prog_10_method_63_code
def yX8_reasonIn : MethodName := ⟨RX8, "reasonIn", "(II)I"⟩
abbrev cX8_why : ByteArray := prog_10_method_64_code
def yX8_why : MethodName := ⟨RX8, "why", "(II)I"⟩
abbrev cX8_isAhead : ByteArray := prog_10_method_65_code
def yX8_isAhead : MethodName := ⟨RX8, "isAhead", "(II)Z"⟩
abbrev cX8_ahead : ByteArray := prog_10_method_66_code
def yX8_ahead : MethodName := ⟨RX8, "ahead", "(I)I"⟩
abbrev cX8_meeting : ByteArray := prog_10_method_67_code
def yX8_meeting : MethodName := ⟨RX8, "meeting", "(II)I"⟩
abbrev cX8_delayIfLate : ByteArray := prog_10_method_68_code
def yX8_delayIfLate : MethodName := ⟨RX8, "delayIfLate", "(II)I"⟩
abbrev cX8_delayIfSlow : ByteArray := prog_10_method_69_code
def yX8_delayIfSlow : MethodName := ⟨RX8, "delayIfSlow", "(II)I"⟩
abbrev cX8_bestTrack : ByteArray := prog_10_method_70_code
def yX8_bestTrack : MethodName := ⟨RX8, "bestTrack", "(I)I"⟩
abbrev cX8_layOrder : ByteArray := prog_10_method_71_code
def yX8_layOrder : MethodName := ⟨RX8, "layOrder", "(I)Z"⟩
abbrev cX8_delayInOrder : ByteArray := prog_10_method_72_code
def yX8_delayInOrder : MethodName := ⟨RX8, "delayInOrder", "()I"⟩
abbrev cX8_orders : ByteArray := prog_10_method_73_code
def yX8_orders : MethodName := ⟨RX8, "orders", "()I"⟩
abbrev cX8_bestOrder : ByteArray := prog_10_method_74_code
def yX8_bestOrder : MethodName := ⟨RX8, "bestOrder", "(I)I"⟩
abbrev cX8_put : ByteArray := prog_10_method_75_code
def yX8_put : MethodName := ⟨RX8, "put", "(J)I"⟩
abbrev cX8_wipe : ByteArray := prog_10_method_76_code
def yX8_wipe : MethodName := ⟨RX8, "wipe", "()I"⟩
abbrev cX8_next : ByteArray := prog_10_method_77_code
def yX8_next : MethodName := ⟨RX8, "next", "()I"⟩
abbrev cX8_takeSign : ByteArray := prog_10_method_78_code
def yX8_takeSign : MethodName := ⟨RX8, "takeSign", "(I)V"⟩
abbrev cX8_takeOne : ByteArray := prog_10_method_79_code
def yX8_takeOne : MethodName := ⟨RX8, "takeOne", "(II)V"⟩
abbrev cX8_takeNumber : ByteArray := prog_10_method_80_code
def yX8_takeNumber : MethodName := ⟨RX8, "takeNumber", "(I)V"⟩
abbrev cX8_takeShuttle : ByteArray := prog_10_method_81_code
def yX8_takeShuttle : MethodName := ⟨RX8, "takeShuttle", "()V"⟩
abbrev cX8_takeOrder : ByteArray := prog_10_method_82_code
def yX8_takeOrder : MethodName := ⟨RX8, "takeOrder", "()V"⟩
abbrev cX8_fault : ByteArray := prog_10_method_83_code
def yX8_fault : MethodName := ⟨RX8, "fault", "()I"⟩
abbrev cX8_carry : ByteArray := prog_10_method_84_code
def yX8_carry : MethodName := ⟨RX8, "carry", "(I)I"⟩
abbrev cX8_carryOut : ByteArray := prog_10_method_85_code
def yX8_carryOut : MethodName := ⟨RX8, "carryOut", "()I"⟩
abbrev cX8_undo : ByteArray := prog_10_method_86_code
def yX8_undo : MethodName := ⟨RX8, "undo", "()I"⟩
abbrev cX8_save : ByteArray := prog_10_method_87_code
def yX8_save : MethodName := ⟨RX8, "save", "(I)I"⟩
abbrev cX8_restore : ByteArray := prog_10_method_88_code
def yX8_restore : MethodName := ⟨RX8, "restore", "(I)I"⟩
def RJ9 : String := "java/lang/Math"
abbrev cJ9_abs_0f7a4 : ByteArray := prog_11_method_59_code
def yJ9_abs_0f7a4 : MethodName := ⟨RJ9, "abs", "(I)I"⟩
abbrev cJ9_max_7cf53 : ByteArray := prog_11_method_65_code
def yJ9_max_7cf53 : MethodName := ⟨RJ9, "max", "(II)I"⟩
abbrev cJ9_min_7cf53 : ByteArray := prog_11_method_69_code
def yJ9_min_7cf53 : MethodName := ⟨RJ9, "min", "(II)I"⟩
def RJ10 : String := "java/lang/System"
def RJ7 : String := "java/util/Arrays"
abbrev cJ7_fill_53178 : ByteArray := prog_13_method_103_code
def yJ7_fill_53178 : MethodName := ⟨RJ7, "fill", "([II)V"⟩
def RL : String := "PassingTrackLaw"
abbrev cL_law : ByteArray := code
def yL_law : MethodName := ⟨RL, "law", "([I)Z"⟩
abbrev vwCl : List vw_C := [(RX0, TX0, 11), (RX1, TX1, 2), (RX2, TX2, 9), (RX3, TX3, 2), (RX4, TX4, 3), (RX5, TX5, 5), (RX6, TX6, 2), (RX7, TX7, 12), (RX8, TX8, 30)]
end
section
/-! THE SMALL MACHINE: worlds, values, one step an instruction; its soundness over the kit's rows follows in 03 -/
abbrev sm_V : Type := Int ⊕ (Nat ⊕ Int64)
abbrev sm_W : Type := Nat × (Nat → Nat × Nat) × (Nat → Int → Int) × (Nat → Int → Option Nat)
def wI (w : sm_W) (a : Nat) (i : Int) : Int := w.2.2.1 a i
def wR (w : sm_W) (a : Nat) (i : Int) : Option Nat := w.2.2.2 a i
def wS (w : sm_W) (a : Nat) : Nat × Nat := w.2.1 a
def wsI (w : sm_W) (a : Nat) (i v : Int) : sm_W := (w.1, w.2.1, (fun x j => if x = a ∧ j = i then v else w.2.2.1 x j), w.2.2.2)
def wsR (w : sm_W) (a : Nat) (i : Int) (v : Nat) : sm_W := (w.1, w.2.1, w.2.2.1, (fun x j => if x = a ∧ j = i then some v else w.2.2.2 x j))
def wNw (w : sm_W) (kd sz : Nat) : sm_W := (w.1 + 1, (fun x => if x = w.1 then (kd, sz) else w.2.1 x), (fun x j => if x = w.1 then 0 else w.2.2.1 x j), (fun x j => if x = w.1 then none else w.2.2.2 x j))
def wCp (w : sm_W) (src dst : Nat) (n : Int) : sm_W := (w.1, w.2.1, (fun x j => if x = dst ∧ 0 ≤ j ∧ j < n then w.2.2.1 src j else w.2.2.1 x j), w.2.2.2)
theorem wI_wsI (w : sm_W) (a : Nat) (i v : Int) (x : Nat) (j : Int) : wI (wsI w a i v) x j = if x = a ∧ j = i then v else wI w x j := rfl
theorem wI_wsR (w : sm_W) (a : Nat) (i : Int) (v : Nat) (x : Nat) (j : Int) : wI (wsR w a i v) x j = wI w x j := rfl
theorem wR_wsI (w : sm_W) (a : Nat) (i v : Int) (x : Nat) (j : Int) : wR (wsI w a i v) x j = wR w x j := rfl
theorem wR_wsR (w : sm_W) (a : Nat) (i : Int) (v : Nat) (x : Nat) (j : Int) : wR (wsR w a i v) x j = if x = a ∧ j = i then some v else wR w x j := rfl
theorem wS_wsI (w : sm_W) (a : Nat) (i v : Int) (x : Nat) : wS (wsI w a i v) x = wS w x := rfl
theorem wS_wsR (w : sm_W) (a : Nat) (i : Int) (v : Nat) (x : Nat) : wS (wsR w a i v) x = wS w x := rfl
theorem wI_wCp (w : sm_W) (a b : Nat) (n : Int) (x : Nat) (j : Int) : wI (wCp w a b n) x j = if x = b ∧ 0 ≤ j ∧ j < n then wI w a j else wI w x j := rfl
theorem wR_wCp (w : sm_W) (a b : Nat) (n : Int) (x : Nat) (j : Int) : wR (wCp w a b n) x j = wR w x j := rfl
theorem wS_wCp (w : sm_W) (a b : Nat) (n : Int) (x : Nat) : wS (wCp w a b n) x = wS w x := rfl
/-- the numbers of 32 bits -/
def sm_r (n : Int) : Prop := -2147483648 ≤ n ∧ n ≤ 2147483647
def sm_ok : sm_V → Prop
  | .inl n => sm_r n
  | .inr _ => True
/-- a slot may be stored to: no long begins in the slot before it -/
def sm_nl (ls : List (Option sm_V)) (i : Nat) : Bool := match i with
  | 0 => true
  | i + 1 => match ls[i]? with
    | some (some (.inr (.inr _))) => false
    | _ => true
def sm_wd : sm_V → Nat
  | .inr (.inr _) => 2
  | _ => 1
def sm_wds : List sm_V → Nat
  | [] => 0
  | v :: r => sm_wd v + sm_wds r
abbrev sm_K : Type := List (Option sm_V) → List sm_V → sm_W → Nat → Nat → Prop
abbrev sm_Par : Type := (Option sm_V → sm_W → Prop) × Nat × Nat
abbrev sm_O : Type := sm_Par → sm_K → (Nat → sm_K) → sm_K
-- the steps
def oK (n : Int) : sm_O := fun _ Nx _ ls st w k q => Nx ls (.inl n :: st) w k q
def oLK (n : Int64) : sm_O := fun _ Nx _ ls st w k q => Nx ls (.inr (.inr n) :: st) w k q
def oL (i : Nat) : sm_O := fun _ Nx _ ls st w k q => match ls[i]? with
  | some (some v) => Nx ls (v :: st) w k q
  | _ => False
def oI (i : Nat) : sm_O := fun _ Nx _ ls st w k q => match ls[i]? with
  | some (some (.inl v)) => Nx ls (.inl v :: st) w k q
  | _ => False
def oA (i : Nat) : sm_O := fun _ Nx _ ls st w k q => match ls[i]? with
  | some (some (.inr (.inl v))) => Nx ls (.inr (.inl v) :: st) w k q
  | _ => False
def oJ (i : Nat) : sm_O := fun _ Nx _ ls st w k q => match ls[i]? with
  | some (some (.inr (.inr v))) => Nx ls (.inr (.inr v) :: st) w k q
  | _ => False
def oIs (i : Nat) : sm_O := fun _ Nx _ ls st w k q => match st with
  | .inl v :: st => i < ls.length ∧ sm_nl ls i = true ∧ Nx (ls.set i (some (.inl v))) st w k q
  | _ => False
def oAs (i : Nat) : sm_O := fun _ Nx _ ls st w k q => match st with
  | .inr (.inl v) :: st => i < ls.length ∧ sm_nl ls i = true ∧ Nx (ls.set i (some (.inr (.inl v)))) st w k q
  | _ => False
def oJs (i : Nat) : sm_O := fun _ Nx _ ls st w k q => match st with
  | .inr (.inr v) :: st => i + 1 < ls.length ∧ sm_nl ls i = true ∧ Nx ((ls.set i (some (.inr (.inr v)))).set (i + 1) none) st w k q
  | _ => False
def oInc (i : Nat) (n : Int) : sm_O := fun _ Nx _ ls st w k q => match ls[i]? with
  | some (some (.inl v)) => i < ls.length ∧ sm_nl ls i = true ∧ sm_r (v + n) ∧ Nx (ls.set i (some (.inl (v + n)))) st w k q
  | _ => False
def oAdd : sm_O := fun _ Nx _ ls st w k q => match st with
  | .inl y :: .inl x :: st => sm_r (x + y) ∧ Nx ls (.inl (x + y) :: st) w k q
  | _ => False
def oSub : sm_O := fun _ Nx _ ls st w k q => match st with
  | .inl y :: .inl x :: st => sm_r (x - y) ∧ Nx ls (.inl (x - y) :: st) w k q
  | _ => False
def oMul : sm_O := fun _ Nx _ ls st w k q => match st with
  | .inl y :: .inl x :: st => sm_r (x * y) ∧ Nx ls (.inl (x * y) :: st) w k q
  | _ => False
def oDiv : sm_O := fun _ Nx _ ls st w k q => match st with
  | .inl y :: .inl x :: st => 0 ≤ x ∧ 0 < y ∧ Nx ls (.inl (x / y) :: st) w k q
  | _ => False
def oRem : sm_O := fun _ Nx _ ls st w k q => match st with
  | .inl y :: .inl x :: st => 0 ≤ x ∧ 0 < y ∧ Nx ls (.inl (x % y) :: st) w k q
  | _ => False
def oNeg : sm_O := fun _ Nx _ ls st w k q => match st with
  | .inl x :: st => sm_r (-x) ∧ Nx ls (.inl (-x) :: st) w k q
  | _ => False
/-- x & m for a mask of low bits -/
def oAnd : sm_O := fun _ Nx _ ls st w k q => match st with
  | .inl y :: .inl x :: st => y = 31 ∧ Nx ls (.inl (x % 32) :: st) w k q
  | _ => False
def oOr : sm_O := fun _ Nx _ ls st w k q => match st with
  | .inl y :: .inl x :: st => 0 ≤ x ∧ x < 65536 ∧ 0 ≤ y ∧ y < 65536 ∧ Nx ls (.inl ((x.toNat ||| y.toNat : Nat) : Int) :: st) w k q
  | _ => False
def oShl : sm_O := fun _ Nx _ ls st w k q => match st with
  | .inl y :: .inl x :: st => x = 1 ∧ 0 ≤ y ∧ y < 16 ∧ Nx ls (.inl ((2 ^ y.toNat : Nat) : Int) :: st) w k q
  | _ => False
def oI2c : sm_O := fun _ Nx _ ls st w k q => match st with
  | .inl x :: st => 0 ≤ x ∧ x < 65536 ∧ Nx ls (.inl x :: st) w k q
  | _ => False
def oI2l : sm_O := fun _ Nx _ ls st w k q => match st with
  | .inl x :: st => Nx ls (.inr (.inr (Int32.ofInt x).toInt64) :: st) w k q
  | _ => False
def oL2i : sm_O := fun _ Nx _ ls st w k q => match st with
  | .inr (.inr x) :: st => Nx ls (.inl x.toInt32.toInt :: st) w k q
  | _ => False
def oLand : sm_O := fun _ Nx _ ls st w k q => match st with
  | .inr (.inr y) :: .inr (.inr x) :: st => Nx ls (.inr (.inr (x &&& y)) :: st) w k q
  | _ => False
def oLor : sm_O := fun _ Nx _ ls st w k q => match st with
  | .inr (.inr y) :: .inr (.inr x) :: st => Nx ls (.inr (.inr (x ||| y)) :: st) w k q
  | _ => False
def oLshl : sm_O := fun _ Nx _ ls st w k q => match st with
  | .inl y :: .inr (.inr x) :: st => Nx ls (.inr (.inr (x <<< ((Int32.ofInt y).toInt64 &&& 63))) :: st) w k q
  | _ => False
def oLshr : sm_O := fun _ Nx _ ls st w k q => match st with
  | .inl y :: .inr (.inr x) :: st => Nx ls (.inr (.inr (x >>> ((Int32.ofInt y).toInt64 &&& 63))) :: st) w k q
  | _ => False
def oLushr : sm_O := fun _ Nx _ ls st w k q => match st with
  | .inl y :: .inr (.inr x) :: st => Nx ls (.inr (.inr (x.toUInt64 >>> ((Int32.ofInt y).toInt64.toUInt64 &&& Int64.toUInt64 63)).toInt64) :: st) w k q
  | _ => False
def oLcmp : sm_O := fun _ Nx _ ls st w k q => match st with
  | .inr (.inr y) :: .inr (.inr x) :: st => Nx ls (.inl (lg_cmp x y).toInt :: st) w k q
  | _ => False
def oDup : sm_O := fun _ Nx _ ls st w k q => match st with
  | v :: st => sm_wd v = 1 ∧ Nx ls (v :: v :: st) w k q
  | _ => False
def oDup2 : sm_O := fun _ Nx _ ls st w k q => match st with
  | v :: u :: st => sm_wd v = 1 ∧ sm_wd u = 1 ∧ Nx ls (v :: u :: v :: u :: st) w k q
  | _ => False
def oPop : sm_O := fun _ Nx _ ls st w k q => match st with
  | v :: st => sm_wd v = 1 ∧ Nx ls st w k q
  | _ => False
def oGo (t : Nat) : sm_O := fun _ _ J ls st w k q => J t ls st w k q
def oEq (t : Nat) : sm_O := fun _ Nx J ls st w k q => match st with
  | .inl y :: .inl x :: st => (x = y → J t ls st w k q) ∧ (¬ x = y → Nx ls st w k q)
  | _ => False
def oNe (t : Nat) : sm_O := fun _ Nx J ls st w k q => match st with
  | .inl y :: .inl x :: st => (¬ x = y → J t ls st w k q) ∧ (x = y → Nx ls st w k q)
  | _ => False
def oLt (t : Nat) : sm_O := fun _ Nx J ls st w k q => match st with
  | .inl y :: .inl x :: st => (x < y → J t ls st w k q) ∧ (y ≤ x → Nx ls st w k q)
  | _ => False
def oGe (t : Nat) : sm_O := fun _ Nx J ls st w k q => match st with
  | .inl y :: .inl x :: st => (y ≤ x → J t ls st w k q) ∧ (x < y → Nx ls st w k q)
  | _ => False
def oGt (t : Nat) : sm_O := fun _ Nx J ls st w k q => match st with
  | .inl y :: .inl x :: st => (y < x → J t ls st w k q) ∧ (x ≤ y → Nx ls st w k q)
  | _ => False
def oLe (t : Nat) : sm_O := fun _ Nx J ls st w k q => match st with
  | .inl y :: .inl x :: st => (x ≤ y → J t ls st w k q) ∧ (y < x → Nx ls st w k q)
  | _ => False
def oEq0 (t : Nat) : sm_O := fun _ Nx J ls st w k q => match st with
  | .inl x :: st => (x = 0 → J t ls st w k q) ∧ (¬ x = 0 → Nx ls st w k q)
  | _ => False
def oNe0 (t : Nat) : sm_O := fun _ Nx J ls st w k q => match st with
  | .inl x :: st => (¬ x = 0 → J t ls st w k q) ∧ (x = 0 → Nx ls st w k q)
  | _ => False
def oLt0 (t : Nat) : sm_O := fun _ Nx J ls st w k q => match st with
  | .inl x :: st => (x < 0 → J t ls st w k q) ∧ (0 ≤ x → Nx ls st w k q)
  | _ => False
def oGe0 (t : Nat) : sm_O := fun _ Nx J ls st w k q => match st with
  | .inl x :: st => (0 ≤ x → J t ls st w k q) ∧ (x < 0 → Nx ls st w k q)
  | _ => False
def oGt0 (t : Nat) : sm_O := fun _ Nx J ls st w k q => match st with
  | .inl x :: st => (0 < x → J t ls st w k q) ∧ (x ≤ 0 → Nx ls st w k q)
  | _ => False
def oLe0 (t : Nat) : sm_O := fun _ Nx J ls st w k q => match st with
  | .inl x :: st => (x ≤ 0 → J t ls st w k q) ∧ (0 < x → Nx ls st w k q)
  | _ => False
def sm_cases (J : Nat → Prop) (x : Int) : Int → List Nat → Prop
  | _, [] => True
  | lo, t :: ts => (x = lo → J t) ∧ sm_cases J x (lo + 1) ts
def oSw (lo : Int) (ts : List Nat) (d : Nat) : sm_O := fun _ _ J ls st w k q => match st with
  | .inl x :: st => sm_cases (fun t => J t ls st w k q) x lo ts ∧ ((x < lo ∨ lo + ts.length ≤ x) → J d ls st w k q)
  | _ => False
-- objects and arrays: of class ci with N slots, the slot k
def oGi (ci N k : Nat) : sm_O := fun _ Nx _ ls st w kk q => match st with
  | .inr (.inl a) :: st => wS w a = (ci, N) ∧ Nx ls (.inl (wI w a k) :: st) w kk q
  | _ => False
def oGr (ci N k : Nat) : sm_O := fun _ Nx _ ls st w kk q => match st with
  | .inr (.inl a) :: st => wS w a = (ci, N) ∧ ∃ b, wR w a k = some b ∧ Nx ls (.inr (.inl b) :: st) w kk q
  | _ => False
def oPi (ci N k : Nat) : sm_O := fun _ Nx _ ls st w kk q => match st with
  | .inl v :: .inr (.inl a) :: st => wS w a = (ci, N) ∧ Nx ls st (wsI w a k v) kk q
  | _ => False
/-- a boolean field -/
def oPz (ci N k : Nat) : sm_O := fun _ Nx _ ls st w kk q => match st with
  | .inl v :: .inr (.inl a) :: st => wS w a = (ci, N) ∧ (v = 0 ∨ v = 1) ∧ Nx ls st (wsI w a k v) kk q
  | _ => False
def oPr (ci N k : Nat) : sm_O := fun _ Nx _ ls st w kk q => match st with
  | .inr (.inl v) :: .inr (.inl a) :: st => wS w a = (ci, N) ∧ Nx ls st (wsR w a k v) kk q
  | _ => False
def oLen : sm_O := fun _ Nx _ ls st w k q => match st with
  | .inr (.inl a) :: st => ((9 ≤ (wS w a).1 ∧ (wS w a).1 < 14) ∨ ((wS w a).1 = 14 ∧ a = 1000)) ∧ ((wS w a).2 : Int) ≤ 2147483647 ∧ Nx ls (.inl ((wS w a).2 : Int) :: st) w k q
  | _ => False
/-- int[] : 9, boolean[] : 10, char[] : 11, Line[] : 12, int[][] : 13, the script : 14 -/
def oIl : sm_O := fun _ Nx _ ls st w k q => match st with
  | .inl i :: .inr (.inl a) :: st => ((wS w a).1 = 9 ∨ ((wS w a).1 = 14 ∧ a = 1000)) ∧ 0 ≤ i ∧ i < (wS w a).2 ∧ Nx ls (.inl (wI w a i) :: st) w k q
  | _ => False
def oZl : sm_O := fun _ Nx _ ls st w k q => match st with
  | .inl i :: .inr (.inl a) :: st => (wS w a).1 = 10 ∧ 0 ≤ i ∧ i < (wS w a).2 ∧ Nx ls (.inl (wI w a i) :: st) w k q
  | _ => False
def oCl : sm_O := fun _ Nx _ ls st w k q => match st with
  | .inl i :: .inr (.inl a) :: st => (wS w a).1 = 11 ∧ 0 ≤ i ∧ i < (wS w a).2 ∧ Nx ls (.inl (wI w a i) :: st) w k q
  | _ => False
def oRl : sm_O := fun _ Nx _ ls st w k q => match st with
  | .inl i :: .inr (.inl a) :: st => ((wS w a).1 = 12 ∨ (wS w a).1 = 13) ∧ 0 ≤ i ∧ i < (wS w a).2 ∧ ∃ b, wR w a i = some b ∧ Nx ls (.inr (.inl b) :: st) w k q
  | _ => False
def oIst : sm_O := fun _ Nx _ ls st w k q => match st with
  | .inl v :: .inl i :: .inr (.inl a) :: st => (wS w a).1 = 9 ∧ 0 ≤ i ∧ i < (wS w a).2 ∧ Nx ls st (wsI w a i v) k q
  | _ => False
def oZst : sm_O := fun _ Nx _ ls st w k q => match st with
  | .inl v :: .inl i :: .inr (.inl a) :: st => (wS w a).1 = 10 ∧ 0 ≤ i ∧ i < (wS w a).2 ∧ (v = 0 ∨ v = 1) ∧ Nx ls st (wsI w a i v) k q
  | _ => False
def oCst : sm_O := fun _ Nx _ ls st w k q => match st with
  | .inl v :: .inl i :: .inr (.inl a) :: st => (wS w a).1 = 11 ∧ 0 ≤ i ∧ i < (wS w a).2 ∧ 0 ≤ v ∧ v < 65536 ∧ Nx ls st (wsI w a i v) k q
  | _ => False
/-- a Line into a Line[] -/
def oRst : sm_O := fun _ Nx _ ls st w k q => match st with
  | .inr (.inl v) :: .inl i :: .inr (.inl a) :: st => (wS w a).1 = 12 ∧ wS w v = (2, 9) ∧ 0 ≤ i ∧ i < (wS w a).2 ∧ Nx ls st (wsR w a i v) k q
  | _ => False
def oCopy : sm_O := fun _ Nx _ ls st w k q => match st with
  | .inl n :: .inl dp :: .inr (.inl d) :: .inl sp :: .inr (.inl a) :: st => (wS w a).1 = 9 ∧ (wS w d).1 = 9 ∧ sp = 0 ∧ dp = 0 ∧ 0 ≤ n ∧ n ≤ (wS w a).2 ∧ n ≤ (wS w d).2 ∧ sm_wds st ≤ 8 ∧ Nx ls st (wCp w a d n) k q
  | _ => False
-- new objects and arrays
def oNew (ci N : Nat) : sm_O := fun P Nx _ ls st w k q => w.1 < 1000 ∧ k + 1 ≤ P.2.1 ∧ q + N ≤ P.2.2 ∧ Nx ls (.inr (.inl w.1) :: st) (wNw w ci N) (k + 1) (q + N)
/-- kd: 9 int, 10 boolean, 11 char, 12 Line -/
def oNa (kd : Nat) : sm_O := fun P Nx _ ls st w k q => match st with
  | .inl n :: st => 0 ≤ n ∧ n ≤ 1000 ∧ w.1 < 1000 ∧ k + 1 ≤ P.2.1 ∧ q + n.toNat ≤ P.2.2 ∧ Nx ls (.inr (.inl w.1) :: st) (wNw w kd n.toNat) (k + 1) (q + n.toNat)
  | _ => False
/-- new int[n][m]: the outer array first, then its rows -/
def wNw2 (w : sm_W) (n m : Nat) : sm_W := (w.1 + 1 + n, (fun x => if x = w.1 then (13, n) else if w.1 < x ∧ x < w.1 + 1 + n then (9, m) else w.2.1 x), (fun x j => if w.1 ≤ x ∧ x < w.1 + 1 + n then 0 else w.2.2.1 x j), (fun x j => if x = w.1 then (if 0 ≤ j ∧ j < (n : Int) then some (w.1 + 1 + j.toNat) else none) else if w.1 < x ∧ x < w.1 + 1 + n then none else w.2.2.2 x j))
def oNa2 : sm_O := fun P Nx _ ls st w k q => match st with
  | .inl m :: .inl n :: st => 0 ≤ n ∧ n ≤ 100 ∧ 0 ≤ m ∧ m ≤ 1000 ∧ w.1 + 1 + n.toNat ≤ 1000 ∧ k + 1 + n.toNat ≤ P.2.1 ∧ q + n.toNat + n.toNat * m.toNat ≤ P.2.2 ∧ Nx ls (.inr (.inl w.1) :: st) (wNw2 w n.toNat m.toNat) (k + 1 + n.toNat) (q + n.toNat + n.toNat * m.toNat)
  | _ => False
/-- Object's constructor -/
def oObj : sm_O := fun _ Nx _ ls st w k q => match st with
  | .inr (.inl _) :: st => sm_wds st ≤ 8 ∧ Nx ls st w k q
  | _ => False
-- calls
def sm_pop : Nat → List sm_V → List sm_V → Option (List sm_V × List sm_V)
  | 0, st, acc => some (acc, st)
  | n + 1, v :: st, acc => sm_pop n st (v :: acc)
  | _ + 1, [], _ => none
abbrev sm_F : Type := List sm_V → sm_W → Option sm_V × sm_W
def sm_back (Nx : sm_K) (ls : List (Option sm_V)) (st : List sm_V) (k q : Nat) : Option sm_V × sm_W → Prop
  | (none, w) => Nx ls st w k q
  | (some v, w) => Nx ls (v :: st) w k q
/-- a static method: its premise, its answer and world, its cells and slots, how many arguments -/
def oCs (Pre : List sm_V → sm_W → Prop) (F : sm_F) (mc ms n : Nat) : sm_O := fun P Nx _ ls st w k q => match sm_pop n st [] with
  | some (as, st) => Pre as w ∧ sm_wds st ≤ 8 ∧ k + mc ≤ P.2.1 ∧ q + ms ≤ P.2.2 ∧ sm_back Nx ls st (k + mc) (q + ms) (F as w)
  | none => False
/-- a method of an object of class ci with N slots: the object is the first of n arguments -/
def oCv (ci N : Nat) (Pre : List sm_V → sm_W → Prop) (F : sm_F) (mc ms n : Nat) : sm_O := fun P Nx _ ls st w k q => match sm_pop n st [] with
  | some (.inr (.inl a) :: as, st) => wS w a = (ci, N) ∧ Pre (.inr (.inl a) :: as) w ∧ sm_wds st ≤ 8 ∧ k + mc ≤ P.2.1 ∧ q + ms ≤ P.2.2 ∧ sm_back Nx ls st (k + mc) (q + ms) (F (.inr (.inl a) :: as) w)
  | _ => False
/-- a private constructor of a nest mate, or any constructor: as a method, the object's class is not asked -/
def oCi (Pre : List sm_V → sm_W → Prop) (F : sm_F) (mc ms n : Nat) : sm_O := fun P Nx _ ls st w k q => match sm_pop n st [] with
  | some (.inr (.inl a) :: as, st) => Pre (.inr (.inl a) :: as) w ∧ sm_wds st ≤ 8 ∧ k + mc ≤ P.2.1 ∧ q + ms ≤ P.2.2 ∧ sm_back Nx ls st (k + mc) (q + ms) (F (.inr (.inl a) :: as) w)
  | _ => False
-- ends
def oIr : sm_O := fun P _ _ _ st w k q => match st with
  | [.inl n] => k ≤ P.2.1 ∧ q ≤ P.2.2 ∧ P.1 (some (.inl n)) w
  | _ => False
def oZr : sm_O := fun P _ _ _ st w k q => match st with
  | [.inl n] => (n = 0 ∨ n = 1) ∧ k ≤ P.2.1 ∧ q ≤ P.2.2 ∧ P.1 (some (.inl n)) w
  | _ => False
def oVr : sm_O := fun P _ _ _ st w k q => match st with
  | [] => k ≤ P.2.1 ∧ q ≤ P.2.2 ∧ P.1 none w
  | _ => False
-- blocks, and runs of blocks
def sm_blk (P : sm_Par) (J : Nat → sm_K) : List sm_O → sm_K
  | [] => fun _ _ _ _ _ => False
  | o :: r => fun ls st w k q => o P (sm_blk P J r) J ls st w k q
def sm_run (cd : Nat → List sm_O) (P : sm_Par) (stop : Nat → Bool) (Z : Nat → sm_K) : Nat → Nat → sm_K
  | 0, t => Z t
  | n + 1, t => sm_blk P (fun u => match stop u with
    | true => Z u
    | false => sm_run cd P stop Z n u) (cd t)
end
section
/-! what a world of the small machine is on the heap, and that the kit's cells are it -/
def sm_tbl : List Cond := lw_tbl.filter goodWord
theorem sm_in {w : Cond} (h : w ∈ lw_tbl) (g : goodWord w = true) : w ∈ sm_tbl := List.mem_filter.mpr ⟨h, g⟩
theorem sm_good {w : Cond} (h : w ∈ sm_tbl) : w ∈ lw_tbl ∧ goodWord w = true := List.mem_filter.mp h
theorem i3_add (x y : Int) : Int32.ofInt x + Int32.ofInt y = Int32.ofInt (x + y) := (Int32.ofInt_add x y).symm
theorem i3_sub (x y : Int) : Int32.ofInt x - Int32.ofInt y = Int32.ofInt (x - y) := (Int32.ofInt_sub x y).symm
theorem i3_mul (x y : Int) : Int32.ofInt x * Int32.ofInt y = Int32.ofInt (x * y) := (Int32.ofInt_mul x y).symm
theorem i3_toInt {n : Int} (h : sm_r n) : (Int32.ofInt n).toInt = n := Int32.toInt_ofInt_of_le (by have := h.1; omega) (by have := h.2; omega)
theorem i3_self (x : Int32) : Int32.ofInt x.toInt = x := Int32.ofInt_toInt x
theorem i3_rng (x : Int32) : sm_r x.toInt := ⟨by have := Int32.le_toInt x; omega, by have := Int32.toInt_lt x; omega⟩
theorem i3_eq {x y : Int} (hx : sm_r x) (hy : sm_r y) : Int32.ofInt x = Int32.ofInt y ↔ x = y := ⟨fun h => by rw [← i3_toInt hx, h, i3_toInt hy], fun h => by rw [h]⟩
theorem i3_lt {x y : Int} (hx : sm_r x) (hy : sm_r y) : Int32.ofInt x < Int32.ofInt y ↔ x < y := by rw [Int32.lt_iff_toInt_lt, i3_toInt hx, i3_toInt hy]
theorem i3_le {x y : Int} (hx : sm_r x) (hy : sm_r y) : Int32.ofInt x ≤ Int32.ofInt y ↔ x ≤ y := by rw [Int32.le_iff_toInt_le, i3_toInt hx, i3_toInt hy]
theorem i3_0 : sm_r 0 := ⟨by decide, by decide⟩
theorem i3_z : (0 : Int32) = Int32.ofInt 0 := rfl
theorem i3_cl {i : Int} (h0 : 0 ≤ i) (hr : sm_r i) : ((Int32.ofInt i).toNatClampNeg : Int) = i := by
  show (((Int32.ofInt i).toInt.toNat : Nat) : Int) = i
  rw [i3_toInt hr]
  omega
theorem i3_cN {i : Int} (hr : sm_r i) : (Int32.ofInt i).toNatClampNeg = i.toNat := by
  show (Int32.ofInt i).toInt.toNat = i.toNat
  rw [i3_toInt hr]
theorem i3_in {i : Int} {n : Nat} (h0 : 0 ≤ i) (h1 : i < n) (hr : sm_r i) : vp_in (Int32.ofInt i) n := by
  rw [vp_in_iff, i3_toInt hr]
  exact ⟨h0, h1⟩
theorem i3_n {i : Int} (h0 : 0 ≤ i) : Int32.ofInt i = nI i.toNat := by
  show Int32.ofInt i = Int32.ofNat i.toNat
  rw [← Int32.ofInt_eq_ofNat, Int.toNat_of_nonneg h0]
theorem i3_div {x y : Int} (hx : 0 ≤ x) (hy : 0 < y) (hrx : sm_r x) (hry : sm_r y) : Int32.ofInt x / Int32.ofInt y = Int32.ofInt (x / y) := by
  have h1 := hrx.2
  have h2 := hry.2
  rw [i3_n hx, i3_n (Int.le_of_lt hy), i3_n (Int.ediv_nonneg hx (Int.le_of_lt hy)), pk_div (by omega) (by omega) (by omega)]
  congr 1
  have hz : ((x.toNat / y.toNat : Nat) : Int) = x / y := by rw [Int.natCast_ediv, Int.toNat_of_nonneg hx, Int.toNat_of_nonneg (Int.le_of_lt hy)]
  rw [← hz, Int.toNat_natCast]
theorem i3_rem {x y : Int} (hx : 0 ≤ x) (hy : 0 < y) (hrx : sm_r x) (hry : sm_r y) : Int32.ofInt x - Int32.ofInt x / Int32.ofInt y * Int32.ofInt y = Int32.ofInt (x % y) := by
  have h1 := hrx.2
  have h2 := hry.2
  rw [i3_n hx, i3_n (Int.le_of_lt hy), i3_n (Int.emod_nonneg x (by omega)), pk_rem (by omega) (by omega) (by omega)]
  congr 1
  have hz : ((x.toNat % y.toNat : Nat) : Int) = x % y := by rw [Int.natCast_emod, Int.toNat_of_nonneg hx, Int.toNat_of_nonneg (Int.le_of_lt hy)]
  rw [← hz, Int.toNat_natCast]
/-- addresses: the script's is sb, an object's is its number behind b -/
def sm_ea (b sb id : Nat) : Nat := if id = 1000 then sb else b + id
def sm_ev (b sb : Nat) : sm_V → Value
  | .inl n => .int (Int32.ofInt n)
  | .inr (.inl a) => .ref (sm_ea b sb a)
  | .inr (.inr x) => .long x
def sm_ty : Nat → Nat → FieldType := fun ci => match ci with
  | 0 => tyX0 | 1 => tyX1 | 2 => tyX2 | 3 => tyX3 | 4 => tyX4 | 5 => tyX5 | 6 => tyX6 | 7 => tyX7 | _ => tyX8
def sm_isR (ci k : Nat) : Bool := match sm_ty ci k with
  | .int | .boolean => false
  | _ => true
def sm_fv (b sb : Nat) (w : sm_W) (id ci k : Nat) : Value := if sm_isR ci k = true then va_rf ((wR w id k).map (sm_ea b sb)) else .int (Int32.ofInt (wI w id k))
def sm_E (b sb : Nat) (cA : Nat → ClassId) (w : sm_W) (id : Nat) : va_E :=
  if (wS w id).1 < 9 then .inr ((wS w id).1, (List.range (wS w id).2).map (sm_fv b sb w id (wS w id).1))
  else if (wS w id).1 < 12 then .inl (cA ((wS w id).1 - 9), (wS w id).2, .inl (fun j => Int32.ofInt (wI w id j)))
  else .inl (cA ((wS w id).1 - 9), (wS w id).2, .inr (.inr (.inr (.inr (fun j => (wR w id j).map (sm_ea b sb))))))
def sm_ws (b sb : Nat) (cA : Nat → ClassId) (w : sm_W) : va_W := (List.range w.1).map (fun id => (sm_ea b sb id, sm_E b sb cA w id))
def sm_tys (cA : Nat → ClassId) : List (ClassId × FieldType) := [(cA 0, .int), (cA 1, .boolean), (cA 2, .char), (cA 3, .object RX2), (cA 4, .array .int)]
def sm_Rep (b sb : Nat) (D : va_G) (cA : Nat → ClassId) (w : sm_W) (U : State) (H : Heap) : Prop :=
  w.1 ≤ 1000 ∧ H.size = b + w.1 ∧ va_P D vwCl (sm_ws b sb cA w) H ∧ (∀ id i, sm_r (wI w id i)) ∧ sb < b ∧ (∀ id, w.1 ≤ id → 14 ≤ (wS w id).1) ∧ ∀ L, wS w 1000 = (14, L) → va_X sb L (fun j => Int32.ofInt (wI w 1000 (j : Int))) U H
theorem sm_ea_lt {b sb id : Nat} (h : id < 1000) : sm_ea b sb id = b + id := if_neg (by omega)
theorem sm_ws_get {b sb : Nat} {cA : Nat → ClassId} {w : sm_W} {a : Nat} (h : a < w.1) : (sm_ws b sb cA w)[a]? = some (sm_ea b sb a, sm_E b sb cA w a) := by
  unfold sm_ws
  rw [List.getElem?_map, List.getElem?_range h]
  rfl
theorem sm_ws_inv {b sb : Nat} {cA : Nat → ClassId} {w : sm_W} {a : Nat} {x : Nat × va_E} (h : (sm_ws b sb cA w)[a]? = some x) : a < w.1 ∧ x = (sm_ea b sb a, sm_E b sb cA w a) := by
  have hl : a < w.1 := by
    have := (List.getElem?_eq_some_iff.mp h).1
    simpa [sm_ws] using this
  rw [sm_ws_get hl] at h
  exact ⟨hl, (Option.some.inj h).symm⟩
theorem sm_D {b sb : Nat} {cA : Nat → ClassId} {w : sm_W} (h : w.1 ≤ 1000) : va_D (fun q => b ≤ q) (sm_ws b sb cA w) := by
  refine ⟨fun i j x y hi hj e => ?_, fun k x hk => ?_⟩
  · obtain ⟨h1, rfl⟩ := sm_ws_inv hi
    obtain ⟨h2, rfl⟩ := sm_ws_inv hj
    dsimp only at e
    rw [sm_ea_lt (by omega), sm_ea_lt (by omega)] at e
    omega
  · obtain ⟨h1, rfl⟩ := sm_ws_inv hk
    dsimp only
    rw [sm_ea_lt (by omega)]
    omega
theorem sm_ws_set {b sb : Nat} {cA : Nat → ClassId} {w w' : sm_W} {a : Nat} (h1 : w'.1 = w.1) (h : ∀ id, id ≠ a → sm_E b sb cA w' id = sm_E b sb cA w id) : (sm_ws b sb cA w).set a (sm_ea b sb a, sm_E b sb cA w' a) = sm_ws b sb cA w' := by
  apply List.ext_getElem?
  intro k
  rw [List.getElem?_set]
  by_cases hk : k < w.1
  · rw [sm_ws_get (w := w') (by rw [h1]; exact hk)]
    by_cases e : a = k
    · subst e
      rw [if_pos rfl, if_pos (by simpa [sm_ws] using hk)]
    · rw [if_neg e, sm_ws_get hk, h k (Ne.symm e)]
  · have n1 : (sm_ws b sb cA w')[k]? = none := List.getElem?_eq_none (by simp [sm_ws]; omega)
    have n2 : (sm_ws b sb cA w)[k]? = none := List.getElem?_eq_none (by simp [sm_ws]; omega)
    rw [n1, n2]
    by_cases e : a = k
    · subst e
      rw [if_pos rfl, if_neg (by simpa [sm_ws] using hk)]
    · rw [if_neg e]
theorem sm_E_o {b sb : Nat} {cA : Nat → ClassId} {w : sm_W} {a ci N : Nat} (h : wS w a = (ci, N)) (hc : ci < 9) : sm_E b sb cA w a = .inr (ci, (List.range N).map (sm_fv b sb w a ci)) := by
  unfold sm_E
  rw [h]
  exact if_pos hc
theorem sm_E_i {b sb : Nat} {cA : Nat → ClassId} {w : sm_W} {a kd : Nat} (h : (wS w a).1 = kd) (h1 : 9 ≤ kd) (h2 : kd < 12) : sm_E b sb cA w a = .inl (cA (kd - 9), (wS w a).2, .inl (fun j => Int32.ofInt (wI w a j))) := by
  unfold sm_E
  rw [h, if_neg (by omega), if_pos h2]
theorem sm_E_r {b sb : Nat} {cA : Nat → ClassId} {w : sm_W} {a kd : Nat} (h : (wS w a).1 = kd) (h1 : 12 ≤ kd) : sm_E b sb cA w a = .inl (cA (kd - 9), (wS w a).2, .inr (.inr (.inr (.inr (fun j => (wR w a j).map (sm_ea b sb)))))) := by
  unfold sm_E
  rw [h, if_neg (by omega), if_neg (by omega)]
theorem sm_lt {b sb : Nat} {D : va_G} {cA : Nat → ClassId} {w : sm_W} {U : State} {H : Heap} (h : sm_Rep b sb D cA w U H) {a : Nat} (ha : (wS w a).1 < 14) : a < w.1 := by
  rcases Nat.lt_or_ge a w.1 with h1 | h1
  · exact h1
  · exact absurd (h.2.2.2.2.2.1 a h1) (by omega)
/-- one cell changed -/
theorem sm_put {b sb : Nat} {D : va_G} {cA : Nat → ClassId} {w w' : sm_W} {U : State} {H H1 : Heap} {a : Nat} (hR : sm_Rep b sb D cA w U H) (ha : a < w.1) (h1 : w'.1 = w.1) (hsh : ∀ id, wS w' id = wS w id) (hI : ∀ id i, sm_r (wI w' id i)) (ho : ∀ id, id ≠ a → sm_E b sb cA w' id = sm_E b sb cA w id) (hx : ∀ i, wI w' 1000 i = wI w 1000 i)
    (hat : va_at D vwCl (sm_ea b sb a, sm_E b sb cA w' a) H1) (hz : H1.size = H.size) (oq : ∀ q : Nat, q ≠ sm_ea b sb a → H1[q]? = H[q]?) : sm_Rep b sb D cA w' U H1 := by
  obtain ⟨r1, r2, r3, r4, r5, r6, r7⟩ := hR
  refine ⟨by rw [h1]; exact r1, by rw [hz, h1]; exact r2, ?_, hI, r5, fun id h => by rw [hsh]; exact r6 id (by rw [← h1]; exact h), fun L hL => ?_⟩
  · rw [← sm_ws_set h1 ho]
    exact r3.set (sm_D r1) (sm_ws_get ha) hat oq
  · rw [hsh] at hL
    have := (r7 L hL).kept (H1 := H1) (oq sb (by rw [sm_ea_lt (by omega)]; omega))
    rw [show (fun j : Nat => Int32.ofInt (wI w' 1000 (j : Int))) = (fun j : Nat => Int32.ofInt (wI w 1000 (j : Int))) from funext fun j => by rw [hx]]
    exact this
theorem sm_Rep.moved {b sb : Nat} {D : va_G} {cA : Nat → ClassId} {w : sm_W} {u U : State} {H : Heap} (hvm : u.vm.Alike U.vm) (h : sm_Rep b sb D cA w u H) : sm_Rep b sb D cA w U H := ⟨h.1, h.2.1, h.2.2.1, h.2.2.2.1, h.2.2.2.2.1, h.2.2.2.2.2.1, fun L hL => (h.2.2.2.2.2.2 L hL).moved hvm⟩
/-- a cell made at the end -/
theorem sm_add {b sb : Nat} {D : va_G} {cA : Nat → ClassId} {w w' : sm_W} {U : State} {H H1 : Heap} (hR : sm_Rep b sb D cA w U H) (hn : w.1 < 1000) (h1 : w'.1 = w.1 + 1) (hsh : ∀ id, id ≠ w.1 → wS w' id = wS w id) (hI : ∀ id i, sm_r (wI w' id i)) (ho : ∀ id, id ≠ w.1 → sm_E b sb cA w' id = sm_E b sb cA w id) (hx : ∀ i, wI w' 1000 i = wI w 1000 i)
    (hat : va_at D vwCl (sm_ea b sb w.1, sm_E b sb cA w' w.1) H1) (hz : H1.size = H.size + 1) (oq : ∀ q : Nat, q < H.size → H1[q]? = H[q]?) : sm_Rep b sb D cA w' U H1 := by
  obtain ⟨r1, r2, r3, r4, r5, r6, r7⟩ := hR
  refine ⟨by omega, by omega, ?_, hI, r5, fun id h => by rw [hsh id (by omega)]; exact r6 id (by omega), fun L hL => ?_⟩
  · intro k x hk
    obtain ⟨h2, rfl⟩ := sm_ws_inv hk
    by_cases e : k = w.1
    · subst e
      exact hat
    · rw [ho k e]
      have h3 := r3 k _ (sm_ws_get (by omega))
      exact h3.kept (oq _ h3.lt)
  · rw [hsh 1000 (by omega)] at hL
    have := (r7 L hL).kept (H1 := H1) (oq sb (by omega))
    rw [show (fun j : Nat => Int32.ofInt (wI w' 1000 (j : Int))) = (fun j : Nat => Int32.ofInt (wI w 1000 (j : Int))) from funext fun j => by rw [hx]]
    exact this
/-- locals -/
def sm_L (nL b sb : Nat) (lsA : Array Slot) (ls : List (Option sm_V)) : Prop := lsA.size = nL ∧ ls.length = nL ∧ lv_wf lsA ∧ ∀ (i : Nat) (v : sm_V), ls[i]? = some (some v) → lsA[i]? = some (Slot.val (sm_ev b sb v))
def sm_asc (b sb : Nat) (ls : List (Option sm_V)) : List (Nat × Value) := (List.range ls.length).filterMap (fun i => match ls[i]? with
  | some (some v) => some (i, sm_ev b sb v)
  | _ => none)
theorem sm_asc_mem {b sb : Nat} {ls : List (Option sm_V)} {q : Nat × Value} : q ∈ sm_asc b sb ls ↔ ∃ v, ls[q.1]? = some (some v) ∧ q.2 = sm_ev b sb v := by
  unfold sm_asc
  rw [List.mem_filterMap]
  constructor
  · rintro ⟨i, hi, h⟩
    split at h
    · next v hv =>
      cases h
      exact ⟨v, hv, rfl⟩
    · cases h
  · rintro ⟨v, hv, h2⟩
    refine ⟨q.1, List.mem_range.mpr (List.getElem?_eq_some_iff.mp hv).1, ?_⟩
    rw [hv]
    dsimp only
    rw [← h2]
theorem sm_L.has {nL b sb : Nat} {lsA : Array Slot} {ls : List (Option sm_V)} (h : sm_L nL b sb lsA ls) : lv_has lsA nL (sm_asc b sb ls) := by
  refine ⟨h.1, h.2.2.1, fun q hq => ?_⟩
  obtain ⟨v, h1, h2⟩ := sm_asc_mem.mp hq
  rw [h2]
  exact h.2.2.2 _ _ h1
theorem sm_ev_cat (b sb : Nat) (v : sm_V) : (sm_ev b sb v).category = sm_wd v := by
  rcases v with n | a | x <;> rfl
theorem sm_L.set1 {nL b sb : Nat} {lsA : Array Slot} {ls : List (Option sm_V)} {i : Nat} {v : sm_V} (h : sm_L nL b sb lsA ls) (hnl : sm_nl ls i = true) (hi : i < ls.length) {ls' : Array Slot} (h' : lv_has ls' nL ((i, sm_ev b sb v) :: (sm_asc b sb ls).filter (fun q => !(q.1 == i) && !(q.1 + 1 == i && q.2.category == 2)))) : sm_L nL b sb ls' (ls.set i (some v)) := by
  refine ⟨h'.1, by rw [List.length_set]; exact h.2.1, h'.2.1, fun j u hj => ?_⟩
  rw [List.getElem?_set] at hj
  by_cases e : i = j
  · subst e
    rw [if_pos rfl, if_pos hi] at hj
    cases hj
    exact h'.2.2 (i, _) List.mem_cons_self
  · rw [if_neg e] at hj
    refine h'.2.2 (j, sm_ev b sb u) (List.mem_cons_of_mem _ (List.mem_filter.mpr ⟨sm_asc_mem.mpr ⟨u, hj, rfl⟩, ?_⟩))
    dsimp only
    rw [sm_ev_cat]
    have e1 : (j == i) = false := by simpa using Ne.symm e
    rw [e1]
    by_cases e2 : j + 1 = i
    · subst e2
      have hw : sm_wd u ≠ 2 := by
        intro hw
        rcases u with n | a | x
        · cases hw
        · cases hw
        · simp [sm_nl, hj] at hnl
      simp [hw]
    · simp [e2]
theorem sm_L.set2 {nL b sb : Nat} {lsA : Array Slot} {ls : List (Option sm_V)} {i : Nat} {x : Int64} (h : sm_L nL b sb lsA ls) (hnl : sm_nl ls i = true) (hi : i + 1 < ls.length) {ls' : Array Slot} (h' : lv_has ls' nL ((i, Value.long x) :: (sm_asc b sb ls).filter (fun q => !(q.1 == i) && (!(q.1 == i + 1) && !(q.1 + 1 == i && q.2.category == 2))))) : sm_L nL b sb ls' ((ls.set i (some (.inr (.inr x)))).set (i + 1) none) := by
  refine ⟨h'.1, by rw [List.length_set, List.length_set]; exact h.2.1, h'.2.1, fun j u hj => ?_⟩
  rw [List.getElem?_set, List.getElem?_set] at hj
  by_cases e0 : i + 1 = j
  · subst e0
    rw [if_pos rfl] at hj
    simp only [List.length_set, hi, if_true] at hj
    cases hj
  · rw [if_neg e0] at hj
    by_cases e : i = j
    · subst e
      rw [if_pos rfl, if_pos (by omega)] at hj
      cases hj
      exact h'.2.2 (i, Value.long x) List.mem_cons_self
    · rw [if_neg e] at hj
      refine h'.2.2 (j, sm_ev b sb u) (List.mem_cons_of_mem _ (List.mem_filter.mpr ⟨sm_asc_mem.mpr ⟨u, hj, rfl⟩, ?_⟩))
      dsimp only
      rw [sm_ev_cat]
      have e1 : (j == i) = false := by simpa using Ne.symm e
      have e3 : (j == i + 1) = false := by simpa using Ne.symm e0
      rw [e1, e3]
      by_cases e2 : j + 1 = i
      · subst e2
        have hw : sm_wd u ≠ 2 := by
          intro hw
          rcases u with n | a | x
          · cases hw
          · cases hw
          · simp [sm_nl, hj] at hnl
        simp [hw]
      · simp [e2]
theorem sm_ok_set {ls : List (Option sm_V)} {i : Nat} {v : sm_V} (h : ∀ v, some v ∈ ls → sm_ok v) (hv : sm_ok v) : ∀ u, some u ∈ ls.set i (some v) → sm_ok u := by
  intro u hu
  rcases List.mem_or_eq_of_mem_set hu with h1 | h1
  · exact h u h1
  · cases h1
    exact hv
theorem sm_ok_setN {ls : List (Option sm_V)} {i : Nat} (h : ∀ v, some v ∈ ls → sm_ok v) : ∀ u, some u ∈ ls.set i none → sm_ok u := by
  intro u hu
  rcases List.mem_or_eq_of_mem_set hu with h1 | h1
  · exact h u h1
  · cases h1
theorem sm_ok_at {ls : List (Option sm_V)} {i : Nat} {v : sm_V} (h : ∀ v, some v ∈ ls → sm_ok v) (hi : ls[i]? = some (some v)) : sm_ok v := h v (List.mem_of_getElem? hi)
theorem sm_ok_cons {st : List sm_V} {v : sm_V} (hv : sm_ok v) (h : ∀ v ∈ st, sm_ok v) : ∀ u ∈ v :: st, sm_ok u := by
  intro u hu
  rcases List.mem_cons.mp hu with rfl | h1
  · exact hv
  · exact h u h1
theorem sm_ok_tl {st : List sm_V} {v : sm_V} (h : ∀ u ∈ v :: st, sm_ok u) : ∀ u ∈ st, sm_ok u := fun u hu => h u (List.mem_cons_of_mem _ hu)
theorem sm_ok_hd {st : List sm_V} {v : sm_V} (h : ∀ u ∈ v :: st, sm_ok u) : sm_ok v := h v List.mem_cons_self
theorem sm_wds_map (b sb : Nat) (st : List sm_V) : ((st.map (sm_ev b sb)).map fun v => v.category).sum = sm_wds st := by
  induction st with
  | nil => rfl
  | cons v r ih =>
    rw [List.map_cons, List.map_cons, List.sum_cons, ih, sm_ev_cat]
    rfl
end
section
/-! ONE STEP OF THE SMALL MACHINE IS ONE OF THE MACHINE: by the kit's rows -/
/-- what the tables say that a callee isn't told by its words: the classes of two kinds of arrays, the nest mates' private methods -/
def sm_nest : List (String × Nat × MethodName) := [(RX7, 9, yX0_init), (RX7, 35, yX6_init), (RX7, 42, yX3_init), (RX7, 49, yX4_init), (RX7, 56, yX5_init), (RX2, 52, yX7_isStation), (RX2, 56, yX7_isStretch)]
def sm_AOA (ty : FieldType) (U : State) : Prop := (Cond.arrayOver (.array ty)).before #[] U = true
def sm_Ex (U : State) : Prop := va_AO RX2 U ∧ sm_AOA .int U ∧ ∀ q ∈ sm_nest, va_Nw (.methodLinkNest q.1 q.2.1 q.2.2 RX7) U
theorem sm_AOA.moved {ty : FieldType} {u U : State} (hvm : u.vm.Alike U.vm) (h : sm_AOA ty u) : sm_AOA ty U := over_moved hvm h
theorem sm_Ex.warm {s U : State} (hW : s.WarmedH U.vm) (h : sm_Ex s) : sm_Ex U := ⟨h.1.moved hW.alike, h.2.1.moved hW.alike, fun q hq => va_Nw.warmM hW (h.2.2 q hq)⟩
theorem sm_Ex.same {u U : State} (hv : u.vm = U.vm) (h : sm_Ex u) : sm_Ex U := ⟨h.1.moved (by rw [hv]; exact Vm.Alike.refl _), h.2.1.moved (by rw [hv]; exact Vm.Alike.refl _), fun q hq => (h.2.2 q hq).same rfl hv⟩
section
variable (p : Program) (l : Launch) (e : Env) (R : Room) (s : State) (m : MethodId) (args : Array Value) (below : List Frame) (meth : Method) (c : Code) (Q : State → Prop) (b sb : Nat) (D : va_G) (cA : Nat → ClassId) (H0 : Heap) (nL : Nat)
def sm_Wz (pc : Nat) : sm_K := fun ls st w k q => ∀ (H : Heap) (locs : List Loc) (lsA : Array Slot), sm_Rep b sb D cA w s H → va_S (fun x => b ≤ x) H0 H locs → sm_L nL b sb lsA ls → (∀ v, some v ∈ ls → sm_ok v) → (∀ v ∈ st, sm_ok v) → W p l e R s m args below meth c H locs k q Q (F0 m pc lsA (st.map (sm_ev b sb)))
/-- what holds of a frame: the machine, the code, the tables' words, the room, and what an end gives -/
def sm_Cx (own nm : String) (cc : ByteArray) (z : Nat) (lev : Nat) (P : sm_Par) : Prop :=
  p.tables.exec = Jvm.exec ∧ c.code = cc ∧ c.maxLocals = nL ∧ s.vm.findClass own = some m.cls ∧ (∀ w ∈ sm_tbl, w.before args s = true) ∧ va_K D vwCl (sm_tys cA) s ∧ b ≤ H0.size ∧ R.cells = P.2.1 ∧ R.slots = P.2.2 ∧ lev ≤ R.frames ∧ 40 * lev ≤ R.locals ∧ meth.name = nm ∧ sm_Ex s ∧
  (∀ (pc : Nat) (H : Heap) (locs : List Loc) (lsA : Array Slot) (w : sm_W) (k q : Nat) (n : Int), decode cc pc = .ok (.ireturn, 1) → ¬ z = 0 → (z = 2 → n = 0 ∨ n = 1) → P.1 (some (.inl n)) w → sm_r n → k ≤ P.2.1 → q ≤ P.2.2 → sm_Rep b sb D cA w s H → va_S (fun x => b ≤ x) H0 H locs → W p l e R s m args below meth c H locs k q Q (F0 m pc lsA [.int (Int32.ofInt n)])) ∧
  (∀ (pc : Nat) (H : Heap) (locs : List Loc) (lsA : Array Slot) (w : sm_W) (k q : Nat), decode cc pc = .ok (.return_, 1) → z = 0 → P.1 none w → k ≤ P.2.1 → q ≤ P.2.2 → sm_Rep b sb D cA w s H → va_S (fun x => b ≤ x) H0 H locs → W p l e R s m args below meth c H locs k q Q (F0 m pc lsA []))
end
/-- the step o at pc, to pc' or to where it jumps -/
def sm_Snd (l : Launch) (own nm : String) (cc : ByteArray) (nL : Nat) (z : Nat) (lev : Nat) (pc pc' : Nat) (o : sm_O) : Prop :=
  ∀ (p : Program) (e : Env) (R : Room) (s : State) (m : MethodId) (args : Array Value) (below : List Frame) (meth : Method) (c : Code) (Q : State → Prop) (b sb : Nat) (D : va_G) (cA : Nat → ClassId) (H0 : Heap) (P : sm_Par), sm_Cx p l e R s m args below meth c Q b sb D cA H0 nL own nm cc z lev P →
  ∀ (Nx : sm_K) (J : Nat → sm_K), (∀ ls st w k q, Nx ls st w k q → sm_Wz p l e R s m args below meth c Q b sb D cA H0 nL pc' ls st w k q) → (∀ t ls st w k q, J t ls st w k q → sm_Wz p l e R s m args below meth c Q b sb D cA H0 nL t ls st w k q) →
  ∀ ls st w k q, o P Nx J ls st w k q → sm_Wz p l e R s m args below meth c Q b sb D cA H0 nL pc ls st w k q
section
variable {l : Launch} {own nm : String} {cc : ByteArray} {nL : Nat} {z : Nat} {lev : Nat} {pc : Nat}

theorem sd_iconst {n : Int} (hd : decode cc pc = .ok (.iconst n, 1)) (hr : sm_r n) : sm_Snd l own nm cc nL z lev pc (pc + 1) (oK n) := by
  intro p e R s m args below meth c Q b sb D cA H0 P hC Nx J hN hJ ls st w k q h
  obtain ⟨hx, hb, hml, hown, hts, hK, hbH, hRc, hRs, hRf, hRl, hnm, hEx, hI, hV⟩ := hC
  intro H locs lsA hR hS hL ho hs
  exact lv_iconst hx hb hd rfl (hN _ _ _ _ _ h H locs lsA hR hS hL ho (sm_ok_cons hr hs))

theorem sd_bipush {n : Int} (hd : decode cc pc = .ok (.bipush n, 2)) (hr : sm_r n) (hv : (Int8.ofInt n).toInt32 = Int32.ofInt n) : sm_Snd l own nm cc nL z lev pc (pc + 2) (oK n) := by
  intro p e R s m args below meth c Q b sb D cA H0 P hC Nx J hN hJ ls st w k q h
  obtain ⟨hx, hb, hml, hown, hts, hK, hbH, hRc, hRs, hRf, hRl, hnm, hEx, hI, hV⟩ := hC
  intro H locs lsA hR hS hL ho hs
  exact lv_bipush hx hb hd hv (hN _ _ _ _ _ h H locs lsA hR hS hL ho (sm_ok_cons hr hs))

theorem sd_sipush {n : Int} (hd : decode cc pc = .ok (.sipush n, 3)) (hr : sm_r n) (hv : (Int16.ofInt n).toInt32 = Int32.ofInt n) : sm_Snd l own nm cc nL z lev pc (pc + 3) (oK n) := by
  intro p e R s m args below meth c Q b sb D cA H0 P hC Nx J hN hJ ls st w k q h
  obtain ⟨hx, hb, hml, hown, hts, hK, hbH, hRc, hRs, hRf, hRl, hnm, hEx, hI, hV⟩ := hC
  intro H locs lsA hR hS hL ho hs
  exact lv_sipush hx hb hd hv (hN _ _ _ _ _ h H locs lsA hR hS hL ho (sm_ok_cons hr hs))

theorem sd_lconst {n : Fin 2} {v : Int64} (hd : decode cc pc = .ok (.lconst n, 1)) (hv : Int64.ofNat (n : Nat) = v) : sm_Snd l own nm cc nL z lev pc (pc + 1) (oLK v) := by
  intro p e R s m args below meth c Q b sb D cA H0 P hC Nx J hN hJ ls st w k q h
  obtain ⟨hx, hb, hml, hown, hts, hK, hbH, hRc, hRs, hRf, hRl, hnm, hEx, hI, hV⟩ := hC
  intro H locs lsA hR hS hL ho hs
  exact lv_lconst hx hb hd hv (hN _ _ _ _ _ h H locs lsA hR hS hL ho (sm_ok_cons trivial hs))

theorem sd_iload {i : Nat} (hd : decode cc pc = .ok (.iload i, 2)) : sm_Snd l own nm cc nL z lev pc (pc + 2) (oI i) := by
  intro p e R s m args below meth c Q b sb D cA H0 P hC Nx J hN hJ ls st w k q h
  obtain ⟨hx, hb, hml, hown, hts, hK, hbH, hRc, hRs, hRf, hRl, hnm, hEx, hI, hV⟩ := hC
  dsimp only [oI] at h
  split at h
  · next v hv =>
    intro H locs lsA hR hS hL ho hs
    exact lv_iload hx hb hd (hL.2.2.2 _ _ hv) (hN _ _ _ _ _ h H locs lsA hR hS hL ho (sm_ok_cons (sm_ok_at ho hv) hs))
  · exact h.elim

theorem sd_iload_n {i : Nat} {j : Fin 4} (hd : decode cc pc = .ok (.iload_n j, 1)) (hj : (j : Nat) = i) : sm_Snd l own nm cc nL z lev pc (pc + 1) (oI i) := by
  intro p e R s m args below meth c Q b sb D cA H0 P hC Nx J hN hJ ls st w k q h
  obtain ⟨hx, hb, hml, hown, hts, hK, hbH, hRc, hRs, hRf, hRl, hnm, hEx, hI, hV⟩ := hC
  dsimp only [oI] at h
  split at h
  · next v hv =>
    intro H locs lsA hR hS hL ho hs
    exact lv_iload_n hx hb hd hj (hL.2.2.2 _ _ hv) (hN _ _ _ _ _ h H locs lsA hR hS hL ho (sm_ok_cons (sm_ok_at ho hv) hs))
  · exact h.elim

theorem sd_aload {i : Nat} (hd : decode cc pc = .ok (.aload i, 2)) : sm_Snd l own nm cc nL z lev pc (pc + 2) (oA i) := by
  intro p e R s m args below meth c Q b sb D cA H0 P hC Nx J hN hJ ls st w k q h
  obtain ⟨hx, hb, hml, hown, hts, hK, hbH, hRc, hRs, hRf, hRl, hnm, hEx, hI, hV⟩ := hC
  dsimp only [oA] at h
  split at h
  · next v hv =>
    intro H locs lsA hR hS hL ho hs
    exact lv_aload hx hb hd (hL.2.2.2 _ _ hv) (hN _ _ _ _ _ h H locs lsA hR hS hL ho (sm_ok_cons (sm_ok_at ho hv) hs))
  · exact h.elim

theorem sd_aload_n {i : Nat} {j : Fin 4} (hd : decode cc pc = .ok (.aload_n j, 1)) (hj : (j : Nat) = i) : sm_Snd l own nm cc nL z lev pc (pc + 1) (oA i) := by
  intro p e R s m args below meth c Q b sb D cA H0 P hC Nx J hN hJ ls st w k q h
  obtain ⟨hx, hb, hml, hown, hts, hK, hbH, hRc, hRs, hRf, hRl, hnm, hEx, hI, hV⟩ := hC
  dsimp only [oA] at h
  split at h
  · next v hv =>
    intro H locs lsA hR hS hL ho hs
    exact lv_aload_n hx hb hd hj (hL.2.2.2 _ _ hv) (hN _ _ _ _ _ h H locs lsA hR hS hL ho (sm_ok_cons (sm_ok_at ho hv) hs))
  · exact h.elim

theorem sd_lload {i : Nat} (hd : decode cc pc = .ok (.lload i, 2)) : sm_Snd l own nm cc nL z lev pc (pc + 2) (oJ i) := by
  intro p e R s m args below meth c Q b sb D cA H0 P hC Nx J hN hJ ls st w k q h
  obtain ⟨hx, hb, hml, hown, hts, hK, hbH, hRc, hRs, hRf, hRl, hnm, hEx, hI, hV⟩ := hC
  dsimp only [oJ] at h
  split at h
  · next v hv =>
    intro H locs lsA hR hS hL ho hs
    exact lv_lload hx hb hd (hL.2.2.2 _ _ hv) (hN _ _ _ _ _ h H locs lsA hR hS hL ho (sm_ok_cons (sm_ok_at ho hv) hs))
  · exact h.elim

theorem sd_lload_n {i : Nat} {j : Fin 4} (hd : decode cc pc = .ok (.lload_n j, 1)) (hj : (j : Nat) = i) : sm_Snd l own nm cc nL z lev pc (pc + 1) (oJ i) := by
  intro p e R s m args below meth c Q b sb D cA H0 P hC Nx J hN hJ ls st w k q h
  obtain ⟨hx, hb, hml, hown, hts, hK, hbH, hRc, hRs, hRf, hRl, hnm, hEx, hI, hV⟩ := hC
  dsimp only [oJ] at h
  split at h
  · next v hv =>
    intro H locs lsA hR hS hL ho hs
    exact lv_lload_n hx hb hd hj (hL.2.2.2 _ _ hv) (hN _ _ _ _ _ h H locs lsA hR hS hL ho (sm_ok_cons (sm_ok_at ho hv) hs))
  · exact h.elim

theorem sd_istore {i : Nat} (hd : decode cc pc = .ok (.istore i, 2)) : sm_Snd l own nm cc nL z lev pc (pc + 2) (oIs i) := by
  intro p e R s m args below meth c Q b sb D cA H0 P hC Nx J hN hJ ls st w k q h
  obtain ⟨hx, hb, hml, hown, hts, hK, hbH, hRc, hRs, hRf, hRl, hnm, hEx, hI, hV⟩ := hC
  dsimp only [oIs] at h
  split at h
  · next v st =>
    obtain ⟨h1, h2, h⟩ := h
    intro H locs lsA hR hS hL ho hs
    refine lv_istore hx hb hd hL.has (by rw [← hL.2.1]; exact h1) rfl fun ls' h' => ?_
    exact hN _ _ _ _ _ h H locs ls' hR hS (hL.set1 h2 h1 h') (sm_ok_set ho (sm_ok_hd hs)) (sm_ok_tl hs)
  · exact h.elim

theorem sd_istore_n {i : Nat} {j : Fin 4} (hd : decode cc pc = .ok (.istore_n j, 1)) (hj : (j : Nat) = i) : sm_Snd l own nm cc nL z lev pc (pc + 1) (oIs i) := by
  intro p e R s m args below meth c Q b sb D cA H0 P hC Nx J hN hJ ls st w k q h
  obtain ⟨hx, hb, hml, hown, hts, hK, hbH, hRc, hRs, hRf, hRl, hnm, hEx, hI, hV⟩ := hC
  dsimp only [oIs] at h
  split at h
  · next v st =>
    obtain ⟨h1, h2, h⟩ := h
    intro H locs lsA hR hS hL ho hs
    refine lv_istore_n hx hb hd hj hL.has (by rw [← hL.2.1]; exact h1) rfl fun ls' h' => ?_
    exact hN _ _ _ _ _ h H locs ls' hR hS (hL.set1 h2 h1 h') (sm_ok_set ho (sm_ok_hd hs)) (sm_ok_tl hs)
  · exact h.elim

theorem sd_astore {i : Nat} (hd : decode cc pc = .ok (.astore i, 2)) : sm_Snd l own nm cc nL z lev pc (pc + 2) (oAs i) := by
  intro p e R s m args below meth c Q b sb D cA H0 P hC Nx J hN hJ ls st w k q h
  obtain ⟨hx, hb, hml, hown, hts, hK, hbH, hRc, hRs, hRf, hRl, hnm, hEx, hI, hV⟩ := hC
  dsimp only [oAs] at h
  split at h
  · next v st =>
    obtain ⟨h1, h2, h⟩ := h
    intro H locs lsA hR hS hL ho hs
    refine lv_astore hx hb hd hL.has (by rw [← hL.2.1]; exact h1) rfl fun ls' h' => ?_
    exact hN _ _ _ _ _ h H locs ls' hR hS (hL.set1 h2 h1 h') (sm_ok_set ho (sm_ok_hd hs)) (sm_ok_tl hs)
  · exact h.elim

theorem sd_astore_n {i : Nat} {j : Fin 4} (hd : decode cc pc = .ok (.astore_n j, 1)) (hj : (j : Nat) = i) : sm_Snd l own nm cc nL z lev pc (pc + 1) (oAs i) := by
  intro p e R s m args below meth c Q b sb D cA H0 P hC Nx J hN hJ ls st w k q h
  obtain ⟨hx, hb, hml, hown, hts, hK, hbH, hRc, hRs, hRf, hRl, hnm, hEx, hI, hV⟩ := hC
  dsimp only [oAs] at h
  split at h
  · next v st =>
    obtain ⟨h1, h2, h⟩ := h
    intro H locs lsA hR hS hL ho hs
    refine lv_astore_n hx hb hd hj hL.has (by rw [← hL.2.1]; exact h1) rfl fun ls' h' => ?_
    exact hN _ _ _ _ _ h H locs ls' hR hS (hL.set1 h2 h1 h') (sm_ok_set ho (sm_ok_hd hs)) (sm_ok_tl hs)
  · exact h.elim

theorem sd_lstore {i : Nat} (hd : decode cc pc = .ok (.lstore i, 2)) : sm_Snd l own nm cc nL z lev pc (pc + 2) (oJs i) := by
  intro p e R s m args below meth c Q b sb D cA H0 P hC Nx J hN hJ ls st w k q h
  obtain ⟨hx, hb, hml, hown, hts, hK, hbH, hRc, hRs, hRf, hRl, hnm, hEx, hI, hV⟩ := hC
  dsimp only [oJs] at h
  split at h
  · next v st =>
    obtain ⟨h1, h2, h⟩ := h
    intro H locs lsA hR hS hL ho hs
    refine lv_lstore hx hb hd hL.has (by rw [← hL.2.1]; exact h1) rfl fun ls' h' => ?_
    exact hN _ _ _ _ _ h H locs ls' hR hS (hL.set2 h2 h1 h') (sm_ok_setN (sm_ok_set ho (sm_ok_hd hs))) (sm_ok_tl hs)
  · exact h.elim

theorem sd_lstore_n {i : Nat} {j : Fin 4} (hd : decode cc pc = .ok (.lstore_n j, 1)) (hj : (j : Nat) = i) : sm_Snd l own nm cc nL z lev pc (pc + 1) (oJs i) := by
  intro p e R s m args below meth c Q b sb D cA H0 P hC Nx J hN hJ ls st w k q h
  obtain ⟨hx, hb, hml, hown, hts, hK, hbH, hRc, hRs, hRf, hRl, hnm, hEx, hI, hV⟩ := hC
  dsimp only [oJs] at h
  split at h
  · next v st =>
    obtain ⟨h1, h2, h⟩ := h
    intro H locs lsA hR hS hL ho hs
    refine lv_lstore_n hx hb hd hj hL.has (by rw [← hL.2.1]; exact h1) rfl fun ls' h' => ?_
    exact hN _ _ _ _ _ h H locs ls' hR hS (hL.set2 h2 h1 h') (sm_ok_setN (sm_ok_set ho (sm_ok_hd hs))) (sm_ok_tl hs)
  · exact h.elim

theorem sd_iinc {i : Nat} {n : Int} (hd : decode cc pc = .ok (.iinc i n, 3)) : sm_Snd l own nm cc nL z lev pc (pc + 3) (oInc i n) := by
  intro p e R s m args below meth c Q b sb D cA H0 P hC Nx J hN hJ ls st w k q h
  obtain ⟨hx, hb, hml, hown, hts, hK, hbH, hRc, hRs, hRf, hRl, hnm, hEx, hI, hV⟩ := hC
  dsimp only [oInc] at h
  split at h
  · next v hv =>
    obtain ⟨h1, h2, h3, h⟩ := h
    intro H locs lsA hR hS hL ho hs
    have hm : (i, Value.int (Int32.ofInt v)) ∈ sm_asc b sb ls := sm_asc_mem.mpr ⟨.inl v, hv, rfl⟩
    obtain ⟨kk, hkk⟩ := List.getElem?_of_mem hm
    refine lv_iinc hx hb hd hL.has hkk (i3_add v n) (by rw [← hL.2.1]; exact h1) rfl fun ls' h' => ?_
    exact hN _ _ _ _ _ h H locs ls' hR hS (hL.set1 (v := .inl (v + n)) h2 h1 h') (sm_ok_set ho h3) hs
  · exact h.elim

theorem sd_iadd (hd : decode cc pc = .ok (.iadd, 1)) : sm_Snd l own nm cc nL z lev pc (pc + 1) (oAdd) := by
  intro p e R s m args below meth c Q b sb D cA H0 P hC Nx J hN hJ ls st w k q h
  obtain ⟨hx, hb, hml, hown, hts, hK, hbH, hRc, hRs, hRf, hRl, hnm, hEx, hI, hV⟩ := hC
  dsimp only [oAdd] at h
  split at h
  · next y x st =>
    obtain ⟨h1, h⟩ := h
    intro H locs lsA hR hS hL ho hs
    have hy : sm_r y := sm_ok_hd hs
    have hxx : sm_r x := sm_ok_hd (sm_ok_tl hs)
    have k := hN _ _ _ _ _ h H locs lsA hR hS hL ho (sm_ok_cons h1 (sm_ok_tl (sm_ok_tl hs)))
    refine lv_iadd hx hb hd ?_
    rw [i3_add]
    exact k
  · exact h.elim

theorem sd_isub (hd : decode cc pc = .ok (.isub, 1)) : sm_Snd l own nm cc nL z lev pc (pc + 1) (oSub) := by
  intro p e R s m args below meth c Q b sb D cA H0 P hC Nx J hN hJ ls st w k q h
  obtain ⟨hx, hb, hml, hown, hts, hK, hbH, hRc, hRs, hRf, hRl, hnm, hEx, hI, hV⟩ := hC
  dsimp only [oSub] at h
  split at h
  · next y x st =>
    obtain ⟨h1, h⟩ := h
    intro H locs lsA hR hS hL ho hs
    have hy : sm_r y := sm_ok_hd hs
    have hxx : sm_r x := sm_ok_hd (sm_ok_tl hs)
    have k := hN _ _ _ _ _ h H locs lsA hR hS hL ho (sm_ok_cons h1 (sm_ok_tl (sm_ok_tl hs)))
    refine lv_isub hx hb hd ?_
    rw [i3_sub]
    exact k
  · exact h.elim

theorem sd_imul (hd : decode cc pc = .ok (.imul, 1)) : sm_Snd l own nm cc nL z lev pc (pc + 1) (oMul) := by
  intro p e R s m args below meth c Q b sb D cA H0 P hC Nx J hN hJ ls st w k q h
  obtain ⟨hx, hb, hml, hown, hts, hK, hbH, hRc, hRs, hRf, hRl, hnm, hEx, hI, hV⟩ := hC
  dsimp only [oMul] at h
  split at h
  · next y x st =>
    obtain ⟨h1, h⟩ := h
    intro H locs lsA hR hS hL ho hs
    have hy : sm_r y := sm_ok_hd hs
    have hxx : sm_r x := sm_ok_hd (sm_ok_tl hs)
    have k := hN _ _ _ _ _ h H locs lsA hR hS hL ho (sm_ok_cons h1 (sm_ok_tl (sm_ok_tl hs)))
    refine lv_imul hx hb hd ?_
    rw [i3_mul]
    exact k
  · exact h.elim

theorem sd_idiv (hd : decode cc pc = .ok (.idiv, 1)) : sm_Snd l own nm cc nL z lev pc (pc + 1) (oDiv) := by
  intro p e R s m args below meth c Q b sb D cA H0 P hC Nx J hN hJ ls st w k q h
  obtain ⟨hx, hb, hml, hown, hts, hK, hbH, hRc, hRs, hRf, hRl, hnm, hEx, hI, hV⟩ := hC
  dsimp only [oDiv] at h
  split at h
  · next y x st =>
    obtain ⟨h1, h2, h⟩ := h
    intro H locs lsA hR hS hL ho hs
    have hy : sm_r y := sm_ok_hd hs
    have hxx : sm_r x := sm_ok_hd (sm_ok_tl hs)
    have hr : sm_r (x / y) := ⟨by have := Int.ediv_nonneg h1 (Int.le_of_lt h2); omega, by have := Int.ediv_le_self y h1; have := hxx.2; omega⟩
    have k := hN _ _ _ _ _ h H locs lsA hR hS hL ho (sm_ok_cons hr (sm_ok_tl (sm_ok_tl hs)))
    refine lv_idiv hx hb hd (fun e => by rw [i3_z, i3_eq hy i3_0] at e; omega) ?_
    rw [i3_div h1 h2 hxx hy]
    exact k
  · exact h.elim

theorem sd_irem (hd : decode cc pc = .ok (.irem, 1)) : sm_Snd l own nm cc nL z lev pc (pc + 1) (oRem) := by
  intro p e R s m args below meth c Q b sb D cA H0 P hC Nx J hN hJ ls st w k q h
  obtain ⟨hx, hb, hml, hown, hts, hK, hbH, hRc, hRs, hRf, hRl, hnm, hEx, hI, hV⟩ := hC
  dsimp only [oRem] at h
  split at h
  · next y x st =>
    obtain ⟨h1, h2, h⟩ := h
    intro H locs lsA hR hS hL ho hs
    have hy : sm_r y := sm_ok_hd hs
    have hxx : sm_r x := sm_ok_hd (sm_ok_tl hs)
    have hr : sm_r (x % y) := ⟨by have := Int.emod_nonneg x (show y ≠ 0 by omega); omega, by have := Int.emod_lt_of_pos x h2; have := hy.2; omega⟩
    have k := hN _ _ _ _ _ h H locs lsA hR hS hL ho (sm_ok_cons hr (sm_ok_tl (sm_ok_tl hs)))
    refine lv_irem hx hb hd (fun e => by rw [i3_z, i3_eq hy i3_0] at e; omega) ?_
    rw [i3_rem h1 h2 hxx hy]
    exact k
  · exact h.elim

theorem sd_ineg (hd : decode cc pc = .ok (.ineg, 1)) : sm_Snd l own nm cc nL z lev pc (pc + 1) (oNeg) := by
  intro p e R s m args below meth c Q b sb D cA H0 P hC Nx J hN hJ ls st w k q h
  obtain ⟨hx, hb, hml, hown, hts, hK, hbH, hRc, hRs, hRf, hRl, hnm, hEx, hI, hV⟩ := hC
  dsimp only [oNeg] at h
  split at h
  · next x st =>
    obtain ⟨h1, h⟩ := h
    intro H locs lsA hR hS hL ho hs
    have k := hN _ _ _ _ _ h H locs lsA hR hS hL ho (sm_ok_cons h1 (sm_ok_tl hs))
    refine lv_ineg hx hb hd ?_
    rw [show -Int32.ofInt x = Int32.ofInt (-x) from (Int32.ofInt_neg x).symm]
    exact k
  · exact h.elim

theorem sd_i2c (hd : decode cc pc = .ok (.i2c, 1)) : sm_Snd l own nm cc nL z lev pc (pc + 1) (oI2c) := by
  intro p e R s m args below meth c Q b sb D cA H0 P hC Nx J hN hJ ls st w k q h
  obtain ⟨hx, hb, hml, hown, hts, hK, hbH, hRc, hRs, hRf, hRl, hnm, hEx, hI, hV⟩ := hC
  dsimp only [oI2c] at h
  split at h
  · next x st =>
    obtain ⟨h1, h2, h⟩ := h
    intro H locs lsA hR hS hL ho hs
    refine lv_i2c (v := Int32.ofInt x) hx hb hd ?_ (hN _ _ _ _ _ h H locs lsA hR hS hL ho hs)
    rw [i3_n h1, pk_char, pk_tn (by omega), Nat.mod_eq_of_lt (by omega)]
  · exact h.elim

theorem sd_i2l (hd : decode cc pc = .ok (.i2l, 1)) : sm_Snd l own nm cc nL z lev pc (pc + 1) (oI2l) := by
  intro p e R s m args below meth c Q b sb D cA H0 P hC Nx J hN hJ ls st w k q h
  obtain ⟨hx, hb, hml, hown, hts, hK, hbH, hRc, hRs, hRf, hRl, hnm, hEx, hI, hV⟩ := hC
  dsimp only [oI2l] at h
  split at h
  · next x st =>
    intro H locs lsA hR hS hL ho hs
    exact lv_i2l hx hb hd rfl (hN _ _ _ _ _ h H locs lsA hR hS hL ho (sm_ok_cons trivial (sm_ok_tl hs)))
  · exact h.elim

theorem sd_l2i (hd : decode cc pc = .ok (.l2i, 1)) : sm_Snd l own nm cc nL z lev pc (pc + 1) (oL2i) := by
  intro p e R s m args below meth c Q b sb D cA H0 P hC Nx J hN hJ ls st w k q h
  obtain ⟨hx, hb, hml, hown, hts, hK, hbH, hRc, hRs, hRf, hRl, hnm, hEx, hI, hV⟩ := hC
  dsimp only [oL2i] at h
  split at h
  · next x st =>
    intro H locs lsA hR hS hL ho hs
    exact lv_l2i hx hb hd (i3_self _).symm (hN _ _ _ _ _ h H locs lsA hR hS hL ho (sm_ok_cons (i3_rng _) (sm_ok_tl hs)))
  · exact h.elim

theorem sd_land (hd : decode cc pc = .ok (.land, 1)) : sm_Snd l own nm cc nL z lev pc (pc + 1) (oLand) := by
  intro p e R s m args below meth c Q b sb D cA H0 P hC Nx J hN hJ ls st w k q h
  obtain ⟨hx, hb, hml, hown, hts, hK, hbH, hRc, hRs, hRf, hRl, hnm, hEx, hI, hV⟩ := hC
  dsimp only [oLand] at h
  split at h
  · next y x st =>
    intro H locs lsA hR hS hL ho hs
    exact lv_land hx hb hd (hN _ _ _ _ _ h H locs lsA hR hS hL ho (sm_ok_cons trivial (sm_ok_tl (sm_ok_tl hs))))
  · exact h.elim

theorem sd_lor (hd : decode cc pc = .ok (.lor, 1)) : sm_Snd l own nm cc nL z lev pc (pc + 1) (oLor) := by
  intro p e R s m args below meth c Q b sb D cA H0 P hC Nx J hN hJ ls st w k q h
  obtain ⟨hx, hb, hml, hown, hts, hK, hbH, hRc, hRs, hRf, hRl, hnm, hEx, hI, hV⟩ := hC
  dsimp only [oLor] at h
  split at h
  · next y x st =>
    intro H locs lsA hR hS hL ho hs
    exact lv_lor hx hb hd (hN _ _ _ _ _ h H locs lsA hR hS hL ho (sm_ok_cons trivial (sm_ok_tl (sm_ok_tl hs))))
  · exact h.elim

theorem sd_lshl (hd : decode cc pc = .ok (.lshl, 1)) : sm_Snd l own nm cc nL z lev pc (pc + 1) (oLshl) := by
  intro p e R s m args below meth c Q b sb D cA H0 P hC Nx J hN hJ ls st w k q h
  obtain ⟨hx, hb, hml, hown, hts, hK, hbH, hRc, hRs, hRf, hRl, hnm, hEx, hI, hV⟩ := hC
  dsimp only [oLshl] at h
  split at h
  · next y x st =>
    intro H locs lsA hR hS hL ho hs
    exact lv_lshl hx hb hd rfl (hN _ _ _ _ _ h H locs lsA hR hS hL ho (sm_ok_cons trivial (sm_ok_tl (sm_ok_tl hs))))
  · exact h.elim

theorem sd_lshr (hd : decode cc pc = .ok (.lshr, 1)) : sm_Snd l own nm cc nL z lev pc (pc + 1) (oLshr) := by
  intro p e R s m args below meth c Q b sb D cA H0 P hC Nx J hN hJ ls st w k q h
  obtain ⟨hx, hb, hml, hown, hts, hK, hbH, hRc, hRs, hRf, hRl, hnm, hEx, hI, hV⟩ := hC
  dsimp only [oLshr] at h
  split at h
  · next y x st =>
    intro H locs lsA hR hS hL ho hs
    exact lv_lshr hx hb hd rfl (hN _ _ _ _ _ h H locs lsA hR hS hL ho (sm_ok_cons trivial (sm_ok_tl (sm_ok_tl hs))))
  · exact h.elim

theorem sd_lushr (hd : decode cc pc = .ok (.lushr, 1)) : sm_Snd l own nm cc nL z lev pc (pc + 1) (oLushr) := by
  intro p e R s m args below meth c Q b sb D cA H0 P hC Nx J hN hJ ls st w k q h
  obtain ⟨hx, hb, hml, hown, hts, hK, hbH, hRc, hRs, hRf, hRl, hnm, hEx, hI, hV⟩ := hC
  dsimp only [oLushr] at h
  split at h
  · next y x st =>
    intro H locs lsA hR hS hL ho hs
    exact lv_lushr hx hb hd rfl (hN _ _ _ _ _ h H locs lsA hR hS hL ho (sm_ok_cons trivial (sm_ok_tl (sm_ok_tl hs))))
  · exact h.elim

theorem sd_lcmp (hd : decode cc pc = .ok (.lcmp, 1)) : sm_Snd l own nm cc nL z lev pc (pc + 1) (oLcmp) := by
  intro p e R s m args below meth c Q b sb D cA H0 P hC Nx J hN hJ ls st w k q h
  obtain ⟨hx, hb, hml, hown, hts, hK, hbH, hRc, hRs, hRf, hRl, hnm, hEx, hI, hV⟩ := hC
  dsimp only [oLcmp] at h
  split at h
  · next y x st =>
    intro H locs lsA hR hS hL ho hs
    have k := hN _ _ _ _ _ h H locs lsA hR hS hL ho (sm_ok_cons (i3_rng _) (sm_ok_tl (sm_ok_tl hs)))
    refine W.lcmp hx hb hd ?_
    rw [List.map_cons] at k
    dsimp only [sm_ev] at k
    rw [i3_self] at k
    exact k
  · exact h.elim

theorem sd_dup (hd : decode cc pc = .ok (.dup, 1)) : sm_Snd l own nm cc nL z lev pc (pc + 1) (oDup) := by
  intro p e R s m args below meth c Q b sb D cA H0 P hC Nx J hN hJ ls st w k q h
  obtain ⟨hx, hb, hml, hown, hts, hK, hbH, hRc, hRs, hRf, hRl, hnm, hEx, hI, hV⟩ := hC
  dsimp only [oDup] at h
  split at h
  · next v st =>
    obtain ⟨h1, h⟩ := h
    intro H locs lsA hR hS hL ho hs
    exact lv_dup hx hb hd (by rw [sm_ev_cat, h1]) (hN _ _ _ _ _ h H locs lsA hR hS hL ho (sm_ok_cons (sm_ok_hd hs) hs))
  · exact h.elim

theorem sd_dup2 (hd : decode cc pc = .ok (.dup2, 1)) : sm_Snd l own nm cc nL z lev pc (pc + 1) (oDup2) := by
  intro p e R s m args below meth c Q b sb D cA H0 P hC Nx J hN hJ ls st w k q h
  obtain ⟨hx, hb, hml, hown, hts, hK, hbH, hRc, hRs, hRf, hRl, hnm, hEx, hI, hV⟩ := hC
  dsimp only [oDup2] at h
  split at h
  · next v u st =>
    obtain ⟨h1, h2, h⟩ := h
    intro H locs lsA hR hS hL ho hs
    exact lv_dup2_11 hx hb hd (by rw [sm_ev_cat, h1]) (by rw [sm_ev_cat, h2]) (hN _ _ _ _ _ h H locs lsA hR hS hL ho (sm_ok_cons (sm_ok_hd hs) (sm_ok_cons (sm_ok_hd (sm_ok_tl hs)) hs)))
  · exact h.elim

theorem sd_pop (hd : decode cc pc = .ok (.pop, 1)) : sm_Snd l own nm cc nL z lev pc (pc + 1) (oPop) := by
  intro p e R s m args below meth c Q b sb D cA H0 P hC Nx J hN hJ ls st w k q h
  obtain ⟨hx, hb, hml, hown, hts, hK, hbH, hRc, hRs, hRf, hRl, hnm, hEx, hI, hV⟩ := hC
  dsimp only [oPop] at h
  split at h
  · next v st =>
    obtain ⟨h1, h⟩ := h
    intro H locs lsA hR hS hL ho hs
    exact lv_pop hx hb hd (by rw [sm_ev_cat, h1]) (hN _ _ _ _ _ h H locs lsA hR hS hL ho (sm_ok_tl hs))
  · exact h.elim

theorem sd_goto {off : Int} {t : Nat} {x : Nat} (hd : decode cc pc = .ok (.goto off, 3)) (ht : (pc : Int) + off = (t : Int)) : sm_Snd l own nm cc nL z lev pc (x) (oGo t) := by
  intro p e R s m args below meth c Q b sb D cA H0 P hC Nx J hN hJ ls st w k q h
  obtain ⟨hx, hb, hml, hown, hts, hK, hbH, hRc, hRs, hRf, hRl, hnm, hEx, hI, hV⟩ := hC
  intro H locs lsA hR hS hL ho hs
  exact lv_goto hx hb hd ht (hJ _ _ _ _ _ _ h H locs lsA hR hS hL ho hs)

theorem sd_fall {x : Nat} : sm_Snd l own nm cc nL z lev pc (x) (oGo pc) := by
  intro p e R s m args below meth c Q b sb D cA H0 P hC Nx J hN hJ ls st w k q h
  obtain ⟨hx, hb, hml, hown, hts, hK, hbH, hRc, hRs, hRf, hRl, hnm, hEx, hI, hV⟩ := hC
  exact hJ _ _ _ _ _ _ h

theorem sd_eq {off : Int} {t : Nat} (hd : decode cc pc = .ok (.if_icmp .eq off, 3)) (ht : (pc : Int) + off = (t : Int)) : sm_Snd l own nm cc nL z lev pc (pc + 3) (oEq t) := by
  intro p e R s m args below meth c Q b sb D cA H0 P hC Nx J hN hJ ls st w k q h
  obtain ⟨hx, hb, hml, hown, hts, hK, hbH, hRc, hRs, hRf, hRl, hnm, hEx, hI, hV⟩ := hC
  dsimp only [oEq] at h
  split at h
  · next y x st =>
    intro H locs lsA hR hS hL ho hs
    have hy : sm_r y := sm_ok_hd hs
    have hxx : sm_r x := sm_ok_hd (sm_ok_tl hs)
    exact lv_icmp_eq hx hb hd ht (fun e0 => hJ _ _ _ _ _ _ (h.1 ((i3_eq hxx hy).mp e0)) H locs lsA hR hS hL ho (sm_ok_tl (sm_ok_tl hs))) (fun e0 => hN _ _ _ _ _ (h.2 (fun e1 => e0 ((i3_eq hxx hy).mpr e1))) H locs lsA hR hS hL ho (sm_ok_tl (sm_ok_tl hs)))
  · exact h.elim

theorem sd_eq0 {off : Int} {t : Nat} (hd : decode cc pc = .ok (.ifCond .eq off, 3)) (ht : (pc : Int) + off = (t : Int)) : sm_Snd l own nm cc nL z lev pc (pc + 3) (oEq0 t) := by
  intro p e R s m args below meth c Q b sb D cA H0 P hC Nx J hN hJ ls st w k q h
  obtain ⟨hx, hb, hml, hown, hts, hK, hbH, hRc, hRs, hRf, hRl, hnm, hEx, hI, hV⟩ := hC
  dsimp only [oEq0] at h
  split at h
  · next x st =>
    intro H locs lsA hR hS hL ho hs
    have hxx : sm_r x := sm_ok_hd hs
    have hy := i3_0
    exact lv_if_eq hx hb hd ht (fun e0 => hJ _ _ _ _ _ _ (h.1 ((i3_eq hxx hy).mp e0)) H locs lsA hR hS hL ho (sm_ok_tl hs)) (fun e0 => hN _ _ _ _ _ (h.2 (fun e1 => e0 ((i3_eq hxx hy).mpr e1))) H locs lsA hR hS hL ho (sm_ok_tl hs))
  · exact h.elim

theorem sd_ne {off : Int} {t : Nat} (hd : decode cc pc = .ok (.if_icmp .ne off, 3)) (ht : (pc : Int) + off = (t : Int)) : sm_Snd l own nm cc nL z lev pc (pc + 3) (oNe t) := by
  intro p e R s m args below meth c Q b sb D cA H0 P hC Nx J hN hJ ls st w k q h
  obtain ⟨hx, hb, hml, hown, hts, hK, hbH, hRc, hRs, hRf, hRl, hnm, hEx, hI, hV⟩ := hC
  dsimp only [oNe] at h
  split at h
  · next y x st =>
    intro H locs lsA hR hS hL ho hs
    have hy : sm_r y := sm_ok_hd hs
    have hxx : sm_r x := sm_ok_hd (sm_ok_tl hs)
    exact lv_icmp_ne hx hb hd ht (fun e0 => hJ _ _ _ _ _ _ (h.1 (fun e1 => e0 ((i3_eq hxx hy).mpr e1))) H locs lsA hR hS hL ho (sm_ok_tl (sm_ok_tl hs))) (fun e0 => hN _ _ _ _ _ (h.2 ((i3_eq hxx hy).mp e0)) H locs lsA hR hS hL ho (sm_ok_tl (sm_ok_tl hs)))
  · exact h.elim

theorem sd_ne0 {off : Int} {t : Nat} (hd : decode cc pc = .ok (.ifCond .ne off, 3)) (ht : (pc : Int) + off = (t : Int)) : sm_Snd l own nm cc nL z lev pc (pc + 3) (oNe0 t) := by
  intro p e R s m args below meth c Q b sb D cA H0 P hC Nx J hN hJ ls st w k q h
  obtain ⟨hx, hb, hml, hown, hts, hK, hbH, hRc, hRs, hRf, hRl, hnm, hEx, hI, hV⟩ := hC
  dsimp only [oNe0] at h
  split at h
  · next x st =>
    intro H locs lsA hR hS hL ho hs
    have hxx : sm_r x := sm_ok_hd hs
    have hy := i3_0
    exact lv_if_ne hx hb hd ht (fun e0 => hJ _ _ _ _ _ _ (h.1 (fun e1 => e0 ((i3_eq hxx hy).mpr e1))) H locs lsA hR hS hL ho (sm_ok_tl hs)) (fun e0 => hN _ _ _ _ _ (h.2 ((i3_eq hxx hy).mp e0)) H locs lsA hR hS hL ho (sm_ok_tl hs))
  · exact h.elim

theorem sd_lt {off : Int} {t : Nat} (hd : decode cc pc = .ok (.if_icmp .lt off, 3)) (ht : (pc : Int) + off = (t : Int)) : sm_Snd l own nm cc nL z lev pc (pc + 3) (oLt t) := by
  intro p e R s m args below meth c Q b sb D cA H0 P hC Nx J hN hJ ls st w k q h
  obtain ⟨hx, hb, hml, hown, hts, hK, hbH, hRc, hRs, hRf, hRl, hnm, hEx, hI, hV⟩ := hC
  dsimp only [oLt] at h
  split at h
  · next y x st =>
    intro H locs lsA hR hS hL ho hs
    have hy : sm_r y := sm_ok_hd hs
    have hxx : sm_r x := sm_ok_hd (sm_ok_tl hs)
    exact lv_icmp_lt hx hb hd ht (fun e0 => hJ _ _ _ _ _ _ (h.1 ((i3_lt hxx hy).mp e0)) H locs lsA hR hS hL ho (sm_ok_tl (sm_ok_tl hs))) (fun e0 => hN _ _ _ _ _ (h.2 ((i3_le hy hxx).mp (Int32.not_lt.mp e0))) H locs lsA hR hS hL ho (sm_ok_tl (sm_ok_tl hs)))
  · exact h.elim

theorem sd_lt0 {off : Int} {t : Nat} (hd : decode cc pc = .ok (.ifCond .lt off, 3)) (ht : (pc : Int) + off = (t : Int)) : sm_Snd l own nm cc nL z lev pc (pc + 3) (oLt0 t) := by
  intro p e R s m args below meth c Q b sb D cA H0 P hC Nx J hN hJ ls st w k q h
  obtain ⟨hx, hb, hml, hown, hts, hK, hbH, hRc, hRs, hRf, hRl, hnm, hEx, hI, hV⟩ := hC
  dsimp only [oLt0] at h
  split at h
  · next x st =>
    intro H locs lsA hR hS hL ho hs
    have hxx : sm_r x := sm_ok_hd hs
    have hy := i3_0
    exact lv_if_lt hx hb hd ht (fun e0 => hJ _ _ _ _ _ _ (h.1 ((i3_lt hxx hy).mp e0)) H locs lsA hR hS hL ho (sm_ok_tl hs)) (fun e0 => hN _ _ _ _ _ (h.2 ((i3_le hy hxx).mp (Int32.not_lt.mp e0))) H locs lsA hR hS hL ho (sm_ok_tl hs))
  · exact h.elim

theorem sd_ge {off : Int} {t : Nat} (hd : decode cc pc = .ok (.if_icmp .ge off, 3)) (ht : (pc : Int) + off = (t : Int)) : sm_Snd l own nm cc nL z lev pc (pc + 3) (oGe t) := by
  intro p e R s m args below meth c Q b sb D cA H0 P hC Nx J hN hJ ls st w k q h
  obtain ⟨hx, hb, hml, hown, hts, hK, hbH, hRc, hRs, hRf, hRl, hnm, hEx, hI, hV⟩ := hC
  dsimp only [oGe] at h
  split at h
  · next y x st =>
    intro H locs lsA hR hS hL ho hs
    have hy : sm_r y := sm_ok_hd hs
    have hxx : sm_r x := sm_ok_hd (sm_ok_tl hs)
    exact lv_icmp_ge hx hb hd ht (fun e0 => hJ _ _ _ _ _ _ (h.1 ((i3_le hy hxx).mp e0)) H locs lsA hR hS hL ho (sm_ok_tl (sm_ok_tl hs))) (fun e0 => hN _ _ _ _ _ (h.2 ((i3_lt hxx hy).mp (Int32.not_le.mp e0))) H locs lsA hR hS hL ho (sm_ok_tl (sm_ok_tl hs)))
  · exact h.elim

theorem sd_ge0 {off : Int} {t : Nat} (hd : decode cc pc = .ok (.ifCond .ge off, 3)) (ht : (pc : Int) + off = (t : Int)) : sm_Snd l own nm cc nL z lev pc (pc + 3) (oGe0 t) := by
  intro p e R s m args below meth c Q b sb D cA H0 P hC Nx J hN hJ ls st w k q h
  obtain ⟨hx, hb, hml, hown, hts, hK, hbH, hRc, hRs, hRf, hRl, hnm, hEx, hI, hV⟩ := hC
  dsimp only [oGe0] at h
  split at h
  · next x st =>
    intro H locs lsA hR hS hL ho hs
    have hxx : sm_r x := sm_ok_hd hs
    have hy := i3_0
    exact lv_if_ge hx hb hd ht (fun e0 => hJ _ _ _ _ _ _ (h.1 ((i3_le hy hxx).mp e0)) H locs lsA hR hS hL ho (sm_ok_tl hs)) (fun e0 => hN _ _ _ _ _ (h.2 ((i3_lt hxx hy).mp (Int32.not_le.mp e0))) H locs lsA hR hS hL ho (sm_ok_tl hs))
  · exact h.elim

theorem sd_gt {off : Int} {t : Nat} (hd : decode cc pc = .ok (.if_icmp .gt off, 3)) (ht : (pc : Int) + off = (t : Int)) : sm_Snd l own nm cc nL z lev pc (pc + 3) (oGt t) := by
  intro p e R s m args below meth c Q b sb D cA H0 P hC Nx J hN hJ ls st w k q h
  obtain ⟨hx, hb, hml, hown, hts, hK, hbH, hRc, hRs, hRf, hRl, hnm, hEx, hI, hV⟩ := hC
  dsimp only [oGt] at h
  split at h
  · next y x st =>
    intro H locs lsA hR hS hL ho hs
    have hy : sm_r y := sm_ok_hd hs
    have hxx : sm_r x := sm_ok_hd (sm_ok_tl hs)
    exact lv_icmp_gt hx hb hd ht (fun e0 => hJ _ _ _ _ _ _ (h.1 ((i3_lt hy hxx).mp e0)) H locs lsA hR hS hL ho (sm_ok_tl (sm_ok_tl hs))) (fun e0 => hN _ _ _ _ _ (h.2 ((i3_le hxx hy).mp (Int32.not_lt.mp e0))) H locs lsA hR hS hL ho (sm_ok_tl (sm_ok_tl hs)))
  · exact h.elim

theorem sd_gt0 {off : Int} {t : Nat} (hd : decode cc pc = .ok (.ifCond .gt off, 3)) (ht : (pc : Int) + off = (t : Int)) : sm_Snd l own nm cc nL z lev pc (pc + 3) (oGt0 t) := by
  intro p e R s m args below meth c Q b sb D cA H0 P hC Nx J hN hJ ls st w k q h
  obtain ⟨hx, hb, hml, hown, hts, hK, hbH, hRc, hRs, hRf, hRl, hnm, hEx, hI, hV⟩ := hC
  dsimp only [oGt0] at h
  split at h
  · next x st =>
    intro H locs lsA hR hS hL ho hs
    have hxx : sm_r x := sm_ok_hd hs
    have hy := i3_0
    exact lv_if_gt hx hb hd ht (fun e0 => hJ _ _ _ _ _ _ (h.1 ((i3_lt hy hxx).mp e0)) H locs lsA hR hS hL ho (sm_ok_tl hs)) (fun e0 => hN _ _ _ _ _ (h.2 ((i3_le hxx hy).mp (Int32.not_lt.mp e0))) H locs lsA hR hS hL ho (sm_ok_tl hs))
  · exact h.elim

theorem sd_le {off : Int} {t : Nat} (hd : decode cc pc = .ok (.if_icmp .le off, 3)) (ht : (pc : Int) + off = (t : Int)) : sm_Snd l own nm cc nL z lev pc (pc + 3) (oLe t) := by
  intro p e R s m args below meth c Q b sb D cA H0 P hC Nx J hN hJ ls st w k q h
  obtain ⟨hx, hb, hml, hown, hts, hK, hbH, hRc, hRs, hRf, hRl, hnm, hEx, hI, hV⟩ := hC
  dsimp only [oLe] at h
  split at h
  · next y x st =>
    intro H locs lsA hR hS hL ho hs
    have hy : sm_r y := sm_ok_hd hs
    have hxx : sm_r x := sm_ok_hd (sm_ok_tl hs)
    exact lv_icmp_le hx hb hd ht (fun e0 => hJ _ _ _ _ _ _ (h.1 ((i3_le hxx hy).mp e0)) H locs lsA hR hS hL ho (sm_ok_tl (sm_ok_tl hs))) (fun e0 => hN _ _ _ _ _ (h.2 ((i3_lt hy hxx).mp (Int32.not_le.mp e0))) H locs lsA hR hS hL ho (sm_ok_tl (sm_ok_tl hs)))
  · exact h.elim

theorem sd_le0 {off : Int} {t : Nat} (hd : decode cc pc = .ok (.ifCond .le off, 3)) (ht : (pc : Int) + off = (t : Int)) : sm_Snd l own nm cc nL z lev pc (pc + 3) (oLe0 t) := by
  intro p e R s m args below meth c Q b sb D cA H0 P hC Nx J hN hJ ls st w k q h
  obtain ⟨hx, hb, hml, hown, hts, hK, hbH, hRc, hRs, hRf, hRl, hnm, hEx, hI, hV⟩ := hC
  dsimp only [oLe0] at h
  split at h
  · next x st =>
    intro H locs lsA hR hS hL ho hs
    have hxx : sm_r x := sm_ok_hd hs
    have hy := i3_0
    exact lv_if_le hx hb hd ht (fun e0 => hJ _ _ _ _ _ _ (h.1 ((i3_le hxx hy).mp e0)) H locs lsA hR hS hL ho (sm_ok_tl hs)) (fun e0 => hN _ _ _ _ _ (h.2 ((i3_lt hy hxx).mp (Int32.not_le.mp e0))) H locs lsA hR hS hL ho (sm_ok_tl hs))
  · exact h.elim

end
end
section
/-! STEPS ON THE WORLD: fields, arrays, new ones -/
theorem sm_E_congr {b sb : Nat} {cA : Nat → ClassId} {w w' : sm_W} {id : Nat} (h1 : wS w' id = wS w id) (h2 : ∀ i, wI w' id i = wI w id i) (h3 : ∀ i, wR w' id i = wR w id i) : sm_E b sb cA w' id = sm_E b sb cA w id := by
  have e1 : ∀ ci, sm_fv b sb w' id ci = sm_fv b sb w id ci := fun ci => funext fun k => by unfold sm_fv; rw [h2, h3]
  have e2 : (fun j : Nat => Int32.ofInt (wI w' id j)) = fun j : Nat => Int32.ofInt (wI w id j) := funext fun j => by rw [h2]
  have e3 : (fun j : Nat => (wR w' id j).map (sm_ea b sb)) = fun j : Nat => (wR w id j).map (sm_ea b sb) := funext fun j => by rw [h3]
  unfold sm_E
  rw [h1, e1, e2, e3]
theorem wI_wsI_ne {w : sm_W} {a : Nat} {i v : Int} {x : Nat} (h : x ≠ a) (j : Int) : wI (wsI w a i v) x j = wI w x j := by
  rw [wI_wsI, if_neg (fun e => h e.1)]
theorem wR_wsR_ne {w : sm_W} {a : Nat} {i : Int} {v : Nat} {x : Nat} (h : x ≠ a) (j : Int) : wR (wsR w a i v) x j = wR w x j := by
  rw [wR_wsR, if_neg (fun e => h e.1)]
theorem sm_r_wsI {w : sm_W} {a : Nat} {i v : Int} (h : ∀ id i, sm_r (wI w id i)) (hv : sm_r v) : ∀ id j, sm_r (wI (wsI w a i v) id j) := by
  intro id j
  rw [wI_wsI]
  split
  · exact hv
  · exact h id j
theorem sm_cell_upd {c : ClassId} {n : Nat} {w : sm_W} {a : Nat} {i v : Int} (h0 : 0 ≤ i) (hr : sm_r i) : (vp_cell c (n, .inl (fun j : Nat => Int32.ofInt (wI w a j)))).setSlot (Int32.ofInt i).toNatClampNeg (.int (Int32.ofInt v)) = vp_cell c (n, .inl (fun j : Nat => Int32.ofInt (wI (wsI w a i v) a j))) := by
  rw [vp_cell_i, vp_cell_i, arrV_store]
  congr 1
  funext j
  have hc := i3_cl h0 hr
  unfold updV
  rw [wI_wsI]
  by_cases e : j = (Int32.ofInt i).toNatClampNeg
  · rw [if_pos e, if_pos ⟨rfl, by rw [e]; exact hc⟩]
  · rw [if_neg e, if_neg (fun e2 => e (by have := e2.2; omega))]
theorem sm_cell_updR {b sb : Nat} {c : ClassId} {n : Nat} {w : sm_W} {a : Nat} {i : Int} {v : Nat} (h0 : 0 ≤ i) (hr : sm_r i) : (vp_cell c (n, .inr (.inr (.inr (.inr (fun j : Nat => (wR w a j).map (sm_ea b sb))))))).setSlot (Int32.ofInt i).toNatClampNeg (.ref (sm_ea b sb v)) = vp_cell c (n, .inr (.inr (.inr (.inr (fun j : Nat => (wR (wsR w a i v) a j).map (sm_ea b sb)))))) := by
  rw [vp_cell_q, vp_cell_q, arrV_store]
  congr 1
  funext j
  have hc := i3_cl h0 hr
  unfold updV
  rw [wR_wsR]
  by_cases e : j = (Int32.ofInt i).toNatClampNeg
  · rw [if_pos e, if_pos ⟨rfl, by rw [e]; exact hc⟩]
    rfl
  · rw [if_neg e, if_neg (fun e2 => e (by have := e2.2; omega))]
theorem sm_put_i {b sb : Nat} {D : va_G} {cA : Nat → ClassId} {w : sm_W} {U : State} {H H1 : Heap} {a : Nat} {i v : Int} (hR : sm_Rep b sb D cA w U H) (ha : a < w.1) (hv : sm_r v) (hat : va_at D vwCl (sm_ea b sb a, sm_E b sb cA (wsI w a i v) a) H1) (hz : H1.size = H.size) (oq : ∀ q : Nat, q ≠ sm_ea b sb a → H1[q]? = H[q]?) : sm_Rep b sb D cA (wsI w a i v) U H1 :=
  sm_put hR ha rfl (fun _ => rfl) (sm_r_wsI hR.2.2.2.1 hv) (fun _ hne => sm_E_congr rfl (fun j => wI_wsI_ne hne j) (fun _ => rfl)) (fun j => wI_wsI_ne (by have := hR.1; omega) j) hat hz oq
theorem sm_put_r {b sb : Nat} {D : va_G} {cA : Nat → ClassId} {w : sm_W} {U : State} {H H1 : Heap} {a : Nat} {i : Int} {v : Nat} (hR : sm_Rep b sb D cA w U H) (ha : a < w.1) (hat : va_at D vwCl (sm_ea b sb a, sm_E b sb cA (wsR w a i v) a) H1) (hz : H1.size = H.size) (oq : ∀ q : Nat, q ≠ sm_ea b sb a → H1[q]? = H[q]?) : sm_Rep b sb D cA (wsR w a i v) U H1 :=
  sm_put hR ha rfl (fun _ => rfl) hR.2.2.2.1 (fun _ hne => sm_E_congr rfl (fun _ => rfl) (fun j => wR_wsR_ne hne j)) (fun _ => rfl) hat hz oq
theorem sm_A {b sb : Nat} {D : va_G} {cA : Nat → ClassId} {w : sm_W} {U : State} {H : Heap} {a : Nat} (hR : sm_Rep b sb D cA w U H) (ha : a < w.1) : b ≤ sm_ea b sb a := by
  rw [sm_ea_lt (by have := hR.1; omega)]
  omega
/-- a class's tables -/
def sm_Cl (ci : Nat) (C : String) (T : u_T) (N : Nat) : Prop := vwCl[ci]? = some (C, T, N) ∧ ci < 9 ∧ (∀ w ∈ u_ws C T N, w ∈ sm_tbl) ∧ (∀ k, k < N → parseFieldDescriptor (T k).2.2.1 = some (sm_ty ci k)) ∧ (∀ a, a < N → ∀ b, b < N → a ≠ b → (T a).2.1 ≠ (T b).2.1) ∧ (∀ k, k < N → (T k).1 = C) ∧ (∀ k, k < N → defaultValue (sm_ty ci k) = if sm_isR ci k = true then .null else .int 0)
theorem sm_fs_set {b sb : Nat} {w w' : sm_W} {a ci N k : Nat} (ho : ∀ j, j ≠ k → sm_fv b sb w' a ci j = sm_fv b sb w a ci j) : ((List.range N).map (sm_fv b sb w a ci)).set k (sm_fv b sb w' a ci k) = (List.range N).map (sm_fv b sb w' a ci) := by
  apply List.ext_getElem?
  intro j
  rw [List.getElem?_set, List.getElem?_map, List.getElem?_map]
  by_cases hj : j < N
  · rw [List.getElem?_range hj]
    by_cases e : k = j
    · subst e
      rw [if_pos rfl, if_pos (by simpa using hj)]
      rfl
    · rw [if_neg e]
      simp only [Option.map_some]
      rw [ho j (Ne.symm e)]
  · have hn : (List.range N)[j]? = none := List.getElem?_eq_none (by rw [List.length_range]; omega)
    rw [hn]
    by_cases e : k = j
    · subst e
      rw [if_pos rfl, if_neg (by simpa using hj)]
      rfl
    · rw [if_neg e]
      rfl
section
variable {p : Program} {l : Launch} {e : Env} {R : Room} {s : State} {m : MethodId} {args : Array Value} {below : List Frame} {meth : Method} {c : Code} {H : Heap} {locs : List Loc} {cells slots : Nat} {Q : State → Prop}
variable {cc : ByteArray} {pc : Nat} {ls : Array Slot} {rest : List Value} {D : va_G} {tys : List (ClassId × FieldType)} {a : Nat}
/-- a field of an object is written, and what it is then is told exactly -/
theorem sm_pf (hexec : p.tables.exec = Jvm.exec) (hb : c.code = cc) {own C : String} {T : u_T} {N ci index : Nat} (hts : ∀ w ∈ sm_tbl, w.before args s = true) (hcl : sm_Cl ci C T N) (hown : s.vm.findClass own = some m.cls) (hK : va_K D vwCl tys s) {fs : List Value} (hat : va_at D vwCl (a, .inr (ci, fs)) H) (k : Nat) (hk : k < N) (hlink : Cond.fieldLink own index C (T k).2.1 (T k).2.2.1 ∈ sm_tbl) (hfin : (T k).2.2.2 = false ∨ (meth.name = "<init>" ∧ C = own)) {v : Value} (hn : narrow (sm_ty ci k) v = v) (hfit : fits (sm_ty ci k) v = true) (hl : k < fs.length) (hdg : decode cc pc = .ok (.putfield index, 3))
    (kk : ∀ (H1 : Heap) (x : Nat), va_at D vwCl (a, .inr (ci, fs.set k v)) H1 → H1.size = H.size → (∀ q, q ≠ a → H1[q]? = H[q]?) → W p l e R s m args below meth c H1 (locs ++ [⟨a, x⟩]) cells slots Q (F0 m (pc + 3) ls rest)) : W p l e R s m args below meth c H locs cells slots Q (F0 m pc ls (v :: .ref a :: rest)) := by
  obtain ⟨hc, -, hin, hty, hnm, hdl, -⟩ := hcl
  have hap := va_apart (own := own) hts hin (sm_ty ci) hty hnm hK hc
  obtain ⟨r, h1, cell, q1, q2, q3, q4⟩ := hat
  have hr : r = (C, T, N) := Option.some.inj (h1.symm.trans hc)
  subst hr
  obtain ⟨hS, hfc, kC, hkC, hkind⟩ := hK.1 ci _ hc
  obtain ⟨cf, kf, fi, f, hi, hsl⟩ := hS k hk
  have hlay := hts _ (hin _ (u_in_lay hk))
  have hst := (u_facts hfc hkC (u_lays hts hin hk) hi).1
  have hlink' := hts _ hlink
  have hi' : s.fieldFound? C (T k).2.1 (T k).2.2.1 = some (cf, kf, fi, f) := by rw [← hdl k hk]; exact hi
  unfold u_lay at hlay
  by_cases hff : (T k).2.2.2 = true
  · rw [if_pos hff] at hlay
    obtain ⟨hin2, hCo⟩ : meth.name = "<init>" ∧ C = own := by
      rcases hfin with h | h
      · rw [hff] at h; cases h
      · exact h
    have hcf : m.cls = cf := by
      obtain ⟨_, _, c', _, _, _, -, -, hf', -, -, -, hown2, -⟩ := Cond.laysFinal_spec hlay
      have e1 : c' = cf := by have := hi.symm.trans hf'; simp at this; exact this.1.symm
      rw [hdl k hk, hCo] at hown2
      rw [← e1]; exact Option.some.inj (hown.symm.trans hown2)
    have h6 := u_fits hfc hkC hkind (Or.inr hlay) hi (hty k hk) hn hfit
    refine W.putFinK hexec hb hown hlink' hi' hst hcf hin2 (by rw [q2]; exact h6) q1 q3 (by rw [hsl]; exact k2_hasslot (q4 k hk)) rfl rfl hdg fun H' e1 e2 e3 => ?_
    rw [hsl] at e1
    exact kk H' _ ⟨_, hc, t_OB.to (V := updV (vp_V fs) k v) ⟨_, e1, q2, q3, t_set q4 hap hk v⟩ (fun j _ => vp_updV_set hl v j)⟩ e2 e3
  · rw [if_neg hff] at hlay
    have h6 := u_store hfc hkC hkind hlay hi (hty k hk) hn hfit
    refine W.putK hexec hb (f := f) ⟨hown, hlink', ⟨_, _, _, hi'⟩, hst⟩ (by rw [q2]; exact h6) q1 q3 (by rw [hsl]; exact k2_hasslot (q4 k hk)) rfl rfl hdg fun H' e1 e2 e3 => ?_
    rw [hsl] at e1
    exact kk H' _ ⟨_, hc, t_OB.to (V := updV (vp_V fs) k v) ⟨_, e1, q2, q3, t_set q4 hap hk v⟩ (fun j _ => vp_updV_set hl v j)⟩ e2 e3
end
section
variable {l : Launch} {own nm : String} {cc : ByteArray} {nL : Nat} {z : Nat} {lev : Nat} {pc : Nat}

theorem sd_geti {ci N k idx : Nat} {C : String} {T : u_T} (hcl : sm_Cl ci C T N) (hk : k < N) (hr : sm_isR ci k = false) (hl : Cond.fieldLink own idx C (T k).2.1 (T k).2.2.1 ∈ sm_tbl) (hd : decode cc pc = .ok (.getfield idx, 3)) : sm_Snd l own nm cc nL z lev pc (pc + 3) (oGi ci N k) := by
  intro p e R s m args below meth c Q b sb D cA H0 P hC Nx J hN hJ ls st w kc qc h
  obtain ⟨hx, hb, hml, hown, hts, hK, hbH, hRc, hRs, hRf, hRl, hnm, hEx, hI, hV⟩ := hC
  dsimp only [oGi] at h
  split at h
  · next a st =>
    obtain ⟨h1, h⟩ := h
    intro H locs lsA hR hS hL ho hs
    have ha := sm_lt hR (a := a) (by rw [h1]; have := hcl.2.1; dsimp only; omega)
    have he : sm_fv b sb w a ci k = Value.int (Int32.ofInt (wI w a k)) := by unfold sm_fv; rw [if_neg (by rw [hr]; decide)]
    refine va_get hx hb hts hcl.2.2.1 hown hK hR.2.2.1 a (by rw [sm_ws_get ha, sm_E_o h1 hcl.2.1]) hcl.1 k hk (hts _ hl) (by rw [hcl.2.2.2.2.2.1 k hk]; exact fun _ h => h) (v := Value.int (Int32.ofInt (wI w a k))) (by rw [← he]; exact (by rw [List.getElem?_map, List.getElem?_range hk]; rfl)) hd ?_
    exact hN _ _ _ _ _ h H locs lsA hR hS hL ho (sm_ok_cons (hR.2.2.2.1 a k) (sm_ok_tl hs))
  · exact h.elim

theorem sd_getr {ci N k idx : Nat} {C : String} {T : u_T} (hcl : sm_Cl ci C T N) (hk : k < N) (hr : sm_isR ci k = true) (hl : Cond.fieldLink own idx C (T k).2.1 (T k).2.2.1 ∈ sm_tbl) (hd : decode cc pc = .ok (.getfield idx, 3)) : sm_Snd l own nm cc nL z lev pc (pc + 3) (oGr ci N k) := by
  intro p e R s m args below meth c Q b sb D cA H0 P hC Nx J hN hJ ls st w kc qc h
  obtain ⟨hx, hb, hml, hown, hts, hK, hbH, hRc, hRs, hRf, hRl, hnm, hEx, hI, hV⟩ := hC
  dsimp only [oGr] at h
  split at h
  · next a st =>
    obtain ⟨h1, d, h2, h⟩ := h
    intro H locs lsA hR hS hL ho hs
    have ha := sm_lt hR (a := a) (by rw [h1]; have := hcl.2.1; dsimp only; omega)
    have he : sm_fv b sb w a ci k = Value.ref (sm_ea b sb d) := by unfold sm_fv; rw [if_pos hr, h2]; rfl
    refine va_get hx hb hts hcl.2.2.1 hown hK hR.2.2.1 a (by rw [sm_ws_get ha, sm_E_o h1 hcl.2.1]) hcl.1 k hk (hts _ hl) (by rw [hcl.2.2.2.2.2.1 k hk]; exact fun _ h => h) (v := Value.ref (sm_ea b sb d)) (by rw [← he]; exact (by rw [List.getElem?_map, List.getElem?_range hk]; rfl)) hd ?_
    exact hN _ _ _ _ _ h H locs lsA hR hS hL ho (sm_ok_cons trivial (sm_ok_tl hs))
  · exact h.elim

theorem sd_puti {ci N k idx : Nat} {C : String} {T : u_T} (hcl : sm_Cl ci C T N) (hk : k < N) (hty : sm_ty ci k = .int) (hfin : (T k).2.2.2 = false ∨ (nm = "<init>" ∧ C = own)) (hl : Cond.fieldLink own idx C (T k).2.1 (T k).2.2.1 ∈ sm_tbl) (hd : decode cc pc = .ok (.putfield idx, 3)) : sm_Snd l own nm cc nL z lev pc (pc + 3) (oPi ci N k) := by
  intro p e R s m args below meth c Q b sb D cA H0 P hC Nx J hN hJ ls st w kc qc h
  obtain ⟨hx, hb, hml, hown, hts, hK, hbH, hRc, hRs, hRf, hRl, hnm, hEx, hI, hV⟩ := hC
  dsimp only [oPi] at h
  split at h
  · next v a st =>
    obtain ⟨h1, h⟩ := h
    intro H locs lsA hR hS hL ho hs
    have ha := sm_lt hR (a := a) (by rw [h1]; have := hcl.2.1; dsimp only; omega)
    have hr : sm_isR ci k = false := by unfold sm_isR; rw [hty]
    have he : sm_fv b sb (wsI w a k v) a ci k = Value.int (Int32.ofInt v) := by unfold sm_fv; rw [if_neg (by rw [hr]; decide), wI_wsI, if_pos ⟨rfl, rfl⟩]
    have hat : va_at D vwCl (sm_ea b sb a, .inr (ci, (List.range N).map (sm_fv b sb w a ci))) H := by
      have := hR.2.2.1 a _ (sm_ws_get ha)
      rw [sm_E_o h1 hcl.2.1] at this
      exact this
    refine sm_pf hx hb hts hcl hown hK hat k hk hl (by rw [hnm]; exact hfin) (v := Value.int (Int32.ofInt v)) (by rw [hty]; rfl) (by rw [hty]; rfl) (by simpa using hk) hd fun H1 x e1 e2 e3 => ?_
    refine hN _ _ _ _ _ h H1 _ lsA (sm_put_i hR ha (sm_ok_hd hs : sm_r v) ?_ e2 e3) (hS.put e2 e3 (sm_A hR ha)) hL ho (sm_ok_tl (sm_ok_tl hs))
    rw [sm_E_o (w := wsI w a k v) h1 hcl.2.1, ← sm_fs_set (w := w) (k := k) (fun j hj => by unfold sm_fv; rw [wI_wsI, if_neg (show ¬ (a = a ∧ (j : Int) = (k : Int)) from fun e => hj (Int.ofNat_inj.mp e.2)), wR_wsI]), he]
    exact e1
  · exact h.elim

theorem sd_putz {ci N k idx : Nat} {C : String} {T : u_T} (hcl : sm_Cl ci C T N) (hk : k < N) (hty : sm_ty ci k = .boolean) (hfin : (T k).2.2.2 = false ∨ (nm = "<init>" ∧ C = own)) (hl : Cond.fieldLink own idx C (T k).2.1 (T k).2.2.1 ∈ sm_tbl) (hd : decode cc pc = .ok (.putfield idx, 3)) : sm_Snd l own nm cc nL z lev pc (pc + 3) (oPz ci N k) := by
  intro p e R s m args below meth c Q b sb D cA H0 P hC Nx J hN hJ ls st w kc qc h
  obtain ⟨hx, hb, hml, hown, hts, hK, hbH, hRc, hRs, hRf, hRl, hnm, hEx, hI, hV⟩ := hC
  dsimp only [oPz] at h
  split at h
  · next v a st =>
    obtain ⟨h1, h2, h⟩ := h
    intro H locs lsA hR hS hL ho hs
    have ha := sm_lt hR (a := a) (by rw [h1]; have := hcl.2.1; dsimp only; omega)
    have hr : sm_isR ci k = false := by unfold sm_isR; rw [hty]
    have he : sm_fv b sb (wsI w a k v) a ci k = Value.int (Int32.ofInt v) := by unfold sm_fv; rw [if_neg (by rw [hr]; decide), wI_wsI, if_pos ⟨rfl, rfl⟩]
    have hat : va_at D vwCl (sm_ea b sb a, .inr (ci, (List.range N).map (sm_fv b sb w a ci))) H := by
      have := hR.2.2.1 a _ (sm_ws_get ha)
      rw [sm_E_o h1 hcl.2.1] at this
      exact this
    refine sm_pf hx hb hts hcl hown hK hat k hk hl (by rw [hnm]; exact hfin) (v := Value.int (Int32.ofInt v)) (by rw [hty]; rcases h2 with rfl | rfl <;> rfl) (by rw [hty]; rcases h2 with rfl | rfl <;> rfl) (by simpa using hk) hd fun H1 x e1 e2 e3 => ?_
    refine hN _ _ _ _ _ h H1 _ lsA (sm_put_i hR ha (sm_ok_hd hs : sm_r v) ?_ e2 e3) (hS.put e2 e3 (sm_A hR ha)) hL ho (sm_ok_tl (sm_ok_tl hs))
    rw [sm_E_o (w := wsI w a k v) h1 hcl.2.1, ← sm_fs_set (w := w) (k := k) (fun j hj => by unfold sm_fv; rw [wI_wsI, if_neg (show ¬ (a = a ∧ (j : Int) = (k : Int)) from fun e => hj (Int.ofNat_inj.mp e.2)), wR_wsI]), he]
    exact e1
  · exact h.elim

theorem sd_putr {ci N k idx : Nat} {C : String} {T : u_T} (hcl : sm_Cl ci C T N) (hk : k < N) (hr : sm_isR ci k = true) (hty : ∀ x : Nat, narrow (sm_ty ci k) (.ref x) = .ref x ∧ fits (sm_ty ci k) (.ref x) = true) (hfin : (T k).2.2.2 = false ∨ (nm = "<init>" ∧ C = own)) (hl : Cond.fieldLink own idx C (T k).2.1 (T k).2.2.1 ∈ sm_tbl) (hd : decode cc pc = .ok (.putfield idx, 3)) : sm_Snd l own nm cc nL z lev pc (pc + 3) (oPr ci N k) := by
  intro p e R s m args below meth c Q b sb D cA H0 P hC Nx J hN hJ ls st w kc qc h
  obtain ⟨hx, hb, hml, hown, hts, hK, hbH, hRc, hRs, hRf, hRl, hnm, hEx, hI, hV⟩ := hC
  dsimp only [oPr] at h
  split at h
  · next v a st =>
    obtain ⟨h1, h⟩ := h
    intro H locs lsA hR hS hL ho hs
    have ha := sm_lt hR (a := a) (by rw [h1]; have := hcl.2.1; dsimp only; omega)
    have hr' := hr
    have he : sm_fv b sb (wsR w a k v) a ci k = Value.ref (sm_ea b sb v) := by unfold sm_fv; rw [if_pos hr, wR_wsR, if_pos ⟨rfl, rfl⟩]; rfl
    have hat : va_at D vwCl (sm_ea b sb a, .inr (ci, (List.range N).map (sm_fv b sb w a ci))) H := by
      have := hR.2.2.1 a _ (sm_ws_get ha)
      rw [sm_E_o h1 hcl.2.1] at this
      exact this
    refine sm_pf hx hb hts hcl hown hK hat k hk hl (by rw [hnm]; exact hfin) (v := Value.ref (sm_ea b sb v)) (hty _).1 (hty _).2 (by simpa using hk) hd fun H1 x e1 e2 e3 => ?_
    refine hN _ _ _ _ _ h H1 _ lsA (sm_put_r hR ha ?_ e2 e3) (hS.put e2 e3 (sm_A hR ha)) hL ho (sm_ok_tl (sm_ok_tl hs))
    rw [sm_E_o (w := wsR w a k v) h1 hcl.2.1, ← sm_fs_set (w := w) (k := k) (fun j hj => by unfold sm_fv; rw [wR_wsR, if_neg (show ¬ (a = a ∧ (j : Int) = (k : Int)) from fun e => hj (Int.ofNat_inj.mp e.2)), wI_wsR]), he]
    exact e1
  · exact h.elim

theorem sd_len (hd : decode cc pc = .ok (.arraylength, 1)) : sm_Snd l own nm cc nL z lev pc (pc + 1) (oLen) := by
  intro p e R s m args below meth c Q b sb D cA H0 P hC Nx J hN hJ ls st w kc qc h
  obtain ⟨hx, hb, hml, hown, hts, hK, hbH, hRc, hRs, hRf, hRl, hnm, hEx, hI, hV⟩ := hC
  dsimp only [oLen] at h
  split at h
  · next a st =>
    obtain ⟨h1, h2, h⟩ := h
    intro H locs lsA hR hS hL ho hs
    have hn : sm_r ((wS w a).2 : Int) := ⟨by omega, h2⟩
    rcases h1 with ⟨h1, h3⟩ | ⟨h1, h3⟩
    · have ha := sm_lt hR h3
      rcases Nat.lt_or_ge (wS w a).1 12 with h4 | h4
      · refine va_alen hx hb hK hR.2.2.1 a ((wS w a).1 - 9) (x := ((wS w a).2, .inl _)) (cA := cA ((wS w a).1 - 9)) (by rw [sm_ws_get ha, sm_E_i rfl h1 h4]) (ty := [FieldType.int, .boolean, .char].getD ((wS w a).1 - 9) .int) ?_ (v := Int32.ofInt ((wS w a).2 : Int)) rfl hd (hN _ _ _ _ _ h H locs lsA hR hS hL ho (sm_ok_cons hn (sm_ok_tl hs)))
        rcases (show (wS w a).1 = 9 ∨ (wS w a).1 = 10 ∨ (wS w a).1 = 11 by omega) with e | e | e <;> rw [e] <;> rfl
      · refine va_alen hx hb hK hR.2.2.1 a ((wS w a).1 - 9) (x := ((wS w a).2, .inr (.inr (.inr (.inr _))))) (cA := cA ((wS w a).1 - 9)) (by rw [sm_ws_get ha, sm_E_r rfl h4]) (ty := [FieldType.object RX2, .array .int].getD ((wS w a).1 - 12) .int) ?_ (v := Int32.ofInt ((wS w a).2 : Int)) rfl hd (hN _ _ _ _ _ h H locs lsA hR hS hL ho (sm_ok_cons hn (sm_ok_tl hs)))
        rcases (show (wS w a).1 = 12 ∨ (wS w a).1 = 13 by omega) with e | e <;> rw [e] <;> rfl
    · subst h3
      have hX := hR.2.2.2.2.2.2 (wS w 1000).2 (by rw [← h1])
      have hsb := hR.2.2.2.2.1
      have hz := hR.2.1
      exact va_slen (b := sb) (L := (wS w 1000).2) (H0 := H) (A := fun x => b ≤ x) hx hb hX (by omega) (by show ¬ b ≤ sb; omega) ⟨Nat.le_refl _, fun _ _ _ => rfl, hS.2.2⟩ hd (hN _ _ _ _ _ h H locs lsA hR hS hL ho (sm_ok_cons hn (sm_ok_tl hs)))
  · exact h.elim

theorem sd_baload (hd : decode cc pc = .ok (.baload, 1)) : sm_Snd l own nm cc nL z lev pc (pc + 1) (oZl) := by
  intro p e R s m args below meth c Q b sb D cA H0 P hC Nx J hN hJ ls st w kc qc h
  obtain ⟨hx, hb, hml, hown, hts, hK, hbH, hRc, hRs, hRf, hRl, hnm, hEx, hI, hV⟩ := hC
  dsimp only [oZl] at h
  split at h
  · next i a st =>
    obtain ⟨h1, h2, h3, h⟩ := h
    intro H locs lsA hR hS hL ho hs
    have hi : sm_r i := sm_ok_hd hs
    have ha := sm_lt hR (a := a) (by rw [h1]; decide)
    have k := hN _ _ _ _ _ h H locs lsA hR hS hL ho (sm_ok_cons (hR.2.2.2.1 a i) (sm_ok_tl (sm_ok_tl hs)))
    refine va_zald hx hb hK hR.2.2.1 a 1 (cA := cA 1) (f := fun j : Nat => Int32.ofInt (wI w a j)) (by rw [sm_ws_get ha, sm_E_i h1 (by decide) (by decide)]) rfl (i3_in h2 h3 hi) hd ?_
    rw [i3_cl h2 hi]
    exact k
  · exact h.elim

theorem sd_caload (hd : decode cc pc = .ok (.caload, 1)) : sm_Snd l own nm cc nL z lev pc (pc + 1) (oCl) := by
  intro p e R s m args below meth c Q b sb D cA H0 P hC Nx J hN hJ ls st w kc qc h
  obtain ⟨hx, hb, hml, hown, hts, hK, hbH, hRc, hRs, hRf, hRl, hnm, hEx, hI, hV⟩ := hC
  dsimp only [oCl] at h
  split at h
  · next i a st =>
    obtain ⟨h1, h2, h3, h⟩ := h
    intro H locs lsA hR hS hL ho hs
    have hi : sm_r i := sm_ok_hd hs
    have ha := sm_lt hR (a := a) (by rw [h1]; decide)
    have k := hN _ _ _ _ _ h H locs lsA hR hS hL ho (sm_ok_cons (hR.2.2.2.1 a i) (sm_ok_tl (sm_ok_tl hs)))
    refine va_cald hx hb hK hR.2.2.1 a 2 (cA := cA 2) (f := fun j : Nat => Int32.ofInt (wI w a j)) (by rw [sm_ws_get ha, sm_E_i h1 (by decide) (by decide)]) rfl (i3_in h2 h3 hi) hd ?_
    rw [i3_cl h2 hi]
    exact k
  · exact h.elim

theorem sd_iaload (hd : decode cc pc = .ok (.iaload, 1)) : sm_Snd l own nm cc nL z lev pc (pc + 1) (oIl) := by
  intro p e R s m args below meth c Q b sb D cA H0 P hC Nx J hN hJ ls st w kc qc h
  obtain ⟨hx, hb, hml, hown, hts, hK, hbH, hRc, hRs, hRf, hRl, hnm, hEx, hI, hV⟩ := hC
  dsimp only [oIl] at h
  split at h
  · next i a st =>
    obtain ⟨h1, h2, h3, h⟩ := h
    intro H locs lsA hR hS hL ho hs
    have hi : sm_r i := sm_ok_hd hs
    have k := hN _ _ _ _ _ h H locs lsA hR hS hL ho (sm_ok_cons (hR.2.2.2.1 a i) (sm_ok_tl (sm_ok_tl hs)))
    rcases h1 with h1 | h1
    · have ha := sm_lt hR (a := a) (by rw [h1]; decide)
      refine va_iald hx hb hK hR.2.2.1 a 0 (cA := cA 0) (f := fun j : Nat => Int32.ofInt (wI w a j)) (by rw [sm_ws_get ha, sm_E_i h1 (by decide) (by decide)]) rfl (i3_in h2 h3 hi) hd ?_
      rw [i3_cl h2 hi]
      exact k
    · obtain ⟨h1, h4⟩ := h1
      subst h4
      have hX := hR.2.2.2.2.2.2 (wS w 1000).2 (by rw [← h1])
      have hsb := hR.2.2.2.2.1
      have hz := hR.2.1
      refine va_sld (H0 := H) (A := fun x => b ≤ x) hx hb (xs := fun j : Nat => Int32.ofInt (wI w 1000 j)) hX (by omega) (by show ¬ b ≤ sb; omega) ⟨Nat.le_refl _, fun _ _ _ => rfl, hS.2.2⟩ (i3_in h2 h3 hi) hd ?_
      rw [i3_cl h2 hi]
      exact k
  · exact h.elim

theorem sd_aaload (hd : decode cc pc = .ok (.aaload, 1)) : sm_Snd l own nm cc nL z lev pc (pc + 1) (oRl) := by
  intro p e R s m args below meth c Q b sb D cA H0 P hC Nx J hN hJ ls st w kc qc h
  obtain ⟨hx, hb, hml, hown, hts, hK, hbH, hRc, hRs, hRf, hRl, hnm, hEx, hI, hV⟩ := hC
  dsimp only [oRl] at h
  split at h
  · next i a st =>
    obtain ⟨h1, h2, h3, d, h4, h⟩ := h
    intro H locs lsA hR hS hL ho hs
    have hi : sm_r i := sm_ok_hd hs
    have ha := sm_lt hR (a := a) (by omega)
    have hlt : (Int32.ofInt i).toNatClampNeg < (wS w a).2 := by have := i3_cl h2 hi; omega
    have hnn : ¬ (Int32.ofInt i < 0) := by rw [i3_z, i3_lt hi i3_0]; omega
    have k := hN _ _ _ _ _ h H locs lsA hR hS hL ho (sm_ok_cons (v := .inr (.inl d)) trivial (sm_ok_tl (sm_ok_tl hs)))
    have hc := hR.2.2.1 a _ (sm_ws_get ha)
    rw [sm_E_r rfl (by omega)] at hc
    have hc : H[sm_ea b sb a]? = some (arrV (cA ((wS w a).1 - 9)) (wS w a).2 (fun j : Nat => va_rf ((wR w a j).map (sm_ea b sb)))) := hc
    have hty : ∃ ty : FieldType, ty.isReference = true ∧ (sm_tys cA)[(wS w a).1 - 9]? = some (cA ((wS w a).1 - 9), ty) := by
      rcases h1 with e | e <;> rw [e]
      · exact ⟨.object RX2, rfl, rfl⟩
      · exact ⟨.array .int, rfl, rfl⟩
    obtain ⟨ty, t1, t2⟩ := hty
    refine W.aald (v := va_rf ((wR w a (Int32.ofInt i).toNatClampNeg).map (sm_ea b sb))) (ty := ty) hx hb hc ((hK.2 _ _ t2).1 _ _) t1 (fun q => by cases q) (by rw [arrV_size]; exact fun q => q.elim hnn (fun q => by omega)) (by rw [arrV_read _ _ hlt]) rfl rfl hd ?_
    rw [i3_cl h2 hi, h4]
    exact k
  · exact h.elim

theorem sd_iastore (hd : decode cc pc = .ok (.iastore, 1)) : sm_Snd l own nm cc nL z lev pc (pc + 1) (oIst) := by
  intro p e R s m args below meth c Q b sb D cA H0 P hC Nx J hN hJ ls st w kc qc h
  obtain ⟨hx, hb, hml, hown, hts, hK, hbH, hRc, hRs, hRf, hRl, hnm, hEx, hI, hV⟩ := hC
  dsimp only [oIst] at h
  split at h
  · next v i a st =>
    obtain ⟨h1, h2, h3, h⟩ := h
    intro H locs lsA hR hS hL ho hs
    have hv : sm_r v := sm_ok_hd hs
    have hi : sm_r i := sm_ok_hd (sm_ok_tl hs)
    have ha := sm_lt hR (a := a) (by rw [h1]; decide)
    have hc := hR.2.2.1 a _ (sm_ws_get ha)
    rw [sm_E_i h1 (by decide) (by decide)] at hc
    have hlt : (Int32.ofInt i).toNatClampNeg < (wS w a).2 := by have := i3_cl h2 hi; omega
    have hnn : ¬ (Int32.ofInt i < 0) := by rw [i3_z, i3_lt hi i3_0]; omega
    refine W.iast hx hb hc ((hK.2 0 _ rfl).1 _ (fun j : Nat => .int (Int32.ofInt (wI w a j)))) (fun q => by cases q) (by show ¬ (_ ∨ (arrV _ _ _).slots.size ≤ _); rw [arrV_size]; exact fun q => q.elim hnn (fun q => absurd q (Nat.not_le.mpr hlt))) rfl rfl hd fun H1 e1 e2 e3 => ?_
    rw [sm_cell_upd h2 hi] at e1
    refine hN _ _ _ _ _ h H1 _ lsA (sm_put_i hR ha hv ?_ e2 e3) (hS.put e2 e3 (sm_A hR ha)) hL ho (sm_ok_tl (sm_ok_tl (sm_ok_tl hs)))
    rw [sm_E_i (w := wsI w a i v) h1 (by decide) (by decide)]
    exact e1
  · exact h.elim

theorem sd_bastore (hd : decode cc pc = .ok (.bastore, 1)) : sm_Snd l own nm cc nL z lev pc (pc + 1) (oZst) := by
  intro p e R s m args below meth c Q b sb D cA H0 P hC Nx J hN hJ ls st w kc qc h
  obtain ⟨hx, hb, hml, hown, hts, hK, hbH, hRc, hRs, hRf, hRl, hnm, hEx, hI, hV⟩ := hC
  dsimp only [oZst] at h
  split at h
  · next v i a st =>
    obtain ⟨h1, h2, h3, h4, h⟩ := h
    intro H locs lsA hR hS hL ho hs
    have hv : sm_r v := sm_ok_hd hs
    have hi : sm_r i := sm_ok_hd (sm_ok_tl hs)
    have ha := sm_lt hR (a := a) (by rw [h1]; decide)
    have hc := hR.2.2.1 a _ (sm_ws_get ha)
    rw [sm_E_i h1 (by decide) (by decide)] at hc
    have hlt : (Int32.ofInt i).toNatClampNeg < (wS w a).2 := by have := i3_cl h2 hi; omega
    have hnn : ¬ (Int32.ofInt i < 0) := by rw [i3_z, i3_lt hi i3_0]; omega
    refine W.zast hx hb hc ((hK.2 1 _ rfl).1 _ (fun j : Nat => .int (Int32.ofInt (wI w a j)))) (fun q => by cases q) (by show ¬ (_ ∨ (arrV _ _ _).slots.size ≤ _); rw [arrV_size]; exact fun q => q.elim hnn (fun q => absurd q (Nat.not_le.mpr hlt))) rfl rfl hd fun H1 e1 e2 e3 => ?_
    rw [show narrow .boolean (.int (Int32.ofInt v)) = .int (Int32.ofInt v) by rcases h4 with rfl | rfl <;> rfl] at e1
    rw [sm_cell_upd h2 hi] at e1
    refine hN _ _ _ _ _ h H1 _ lsA (sm_put_i hR ha hv ?_ e2 e3) (hS.put e2 e3 (sm_A hR ha)) hL ho (sm_ok_tl (sm_ok_tl (sm_ok_tl hs)))
    rw [sm_E_i (w := wsI w a i v) h1 (by decide) (by decide)]
    exact e1
  · exact h.elim

theorem sd_castore (hd : decode cc pc = .ok (.castore, 1)) : sm_Snd l own nm cc nL z lev pc (pc + 1) (oCst) := by
  intro p e R s m args below meth c Q b sb D cA H0 P hC Nx J hN hJ ls st w kc qc h
  obtain ⟨hx, hb, hml, hown, hts, hK, hbH, hRc, hRs, hRf, hRl, hnm, hEx, hI, hV⟩ := hC
  dsimp only [oCst] at h
  split at h
  · next v i a st =>
    obtain ⟨h1, h2, h3, h4, h5, h⟩ := h
    intro H locs lsA hR hS hL ho hs
    have hv : sm_r v := sm_ok_hd hs
    have hi : sm_r i := sm_ok_hd (sm_ok_tl hs)
    have ha := sm_lt hR (a := a) (by rw [h1]; decide)
    have hc := hR.2.2.1 a _ (sm_ws_get ha)
    rw [sm_E_i h1 (by decide) (by decide)] at hc
    have hlt : (Int32.ofInt i).toNatClampNeg < (wS w a).2 := by have := i3_cl h2 hi; omega
    have hnn : ¬ (Int32.ofInt i < 0) := by rw [i3_z, i3_lt hi i3_0]; omega
    refine W.cast hx hb hc ((hK.2 2 _ rfl).1 _ (fun j : Nat => .int (Int32.ofInt (wI w a j)))) (fun q => by cases q) (by show ¬ (_ ∨ (arrV _ _ _).slots.size ≤ _); rw [arrV_size]; exact fun q => q.elim hnn (fun q => absurd q (Nat.not_le.mpr hlt))) rfl rfl hd fun H1 e1 e2 e3 => ?_
    rw [show narrow .char (.int (Int32.ofInt v)) = .int (Int32.ofInt v) by rw [i3_n h4]; exact (pk_charN (by omega)).1] at e1
    rw [sm_cell_upd h2 hi] at e1
    refine hN _ _ _ _ _ h H1 _ lsA (sm_put_i hR ha hv ?_ e2 e3) (hS.put e2 e3 (sm_A hR ha)) hL ho (sm_ok_tl (sm_ok_tl (sm_ok_tl hs)))
    rw [sm_E_i (w := wsI w a i v) h1 (by decide) (by decide)]
    exact e1
  · exact h.elim

theorem sd_aastore (hd : decode cc pc = .ok (.aastore, 1)) : sm_Snd l own nm cc nL z lev pc (pc + 1) (oRst) := by
  intro p e R s m args below meth c Q b sb D cA H0 P hC Nx J hN hJ ls st w kc qc h
  obtain ⟨hx, hb, hml, hown, hts, hK, hbH, hRc, hRs, hRf, hRl, hnm, hEx, hI, hV⟩ := hC
  dsimp only [oRst] at h
  split at h
  · next v i a st =>
    obtain ⟨h1, h5, h2, h3, h⟩ := h
    intro H locs lsA hR hS hL ho hs
    have hi : sm_r i := sm_ok_hd (sm_ok_tl hs)
    have ha := sm_lt hR (a := a) (by rw [h1]; decide)
    have hva := sm_lt hR (a := v) (by rw [h5]; decide)
    have hc := hR.2.2.1 a _ (sm_ws_get ha)
    rw [sm_E_r h1 (by decide)] at hc
    have hlt : (Int32.ofInt i).toNatClampNeg < (wS w a).2 := by have := i3_cl h2 hi; omega
    have hnn : ¬ (Int32.ofInt i < 0) := by rw [i3_z, i3_lt hi i3_0]; omega
    have hvv := hR.2.2.1 v _ (sm_ws_get hva)
    rw [sm_E_o h5 (by decide)] at hvv
    obtain ⟨r, hr0, cellV, g1, g2, g3, -⟩ := hvv
    have hcls := (hK.1 2 (RX2, TX2, 9) rfl).2
    obtain ⟨kA, comp, k1, k2, k3, -⟩ := (hK.2 3 (cA 3, .object RX2) rfl).2
    have hcomp : comp = D.1 2 := Option.some.inj (k3.symm.trans hcls.1)
    subst hcomp
    obtain ⟨kC, hkC, -⟩ := hcls.2
    refine W.aast hx hb hc (fun q h => by cases h) (fun h => by cases h) k1 k2 rfl hkC ⟨hnn, by show _ < (arrV _ _ _).slots.size; rw [arrV_size]; exact hlt⟩ g1 (fun q h => by rw [g3] at h; cases h) (by rw [g2]; exact hkC) (by rw [g2]; exact va_assign hcls) rfl rfl hd fun H1 e1 e2 e3 => ?_
    rw [sm_cell_updR h2 hi] at e1
    refine hN _ _ _ _ _ h H1 _ lsA (sm_put_r hR ha ?_ e2 e3) (hS.put e2 e3 (sm_A hR ha)) hL ho (sm_ok_tl (sm_ok_tl (sm_ok_tl hs)))
    rw [sm_E_r (w := wsR w a i v) h1 (by decide)]
    exact e1
  · exact h.elim

end
end
section
/-! CALLS, ENDS, BLOCKS, AND A METHOD'S CONTRACT OUT OF A RUN OF THE SMALL MACHINE -/
theorem sm_goodIn {ws : List Cond} (h : ∀ w ∈ ws, w ∈ sm_tbl) : GoodIn sm_tbl ws := fun w hw => ⟨h w hw, good_of_word (sm_good (h w hw)).2⟩
def sm_rm (lev mc ms : Nat) : Room := { frames := lev, cells := mc, slots := ms, locals := 40 * lev }
def sm_Pc (b sb : Nat) (D : va_G) (cA : Nat → ClassId) (as : List sm_V) (w : sm_W) : Array Value → State → Prop := fun a U => a = (as.map (sm_ev b sb)).toArray ∧ sm_Rep b sb D cA w U U.heap ∧ va_K D vwCl (sm_tys cA) U ∧ sm_Ex U ∧ ∀ v ∈ as, sm_ok v
def sm_Qc (b sb : Nat) (D : va_G) (cA : Nat → ClassId) (r : Option sm_V × sm_W) : Array Value → State → Outcome → State → Prop := fun _ st o t => o = .returned (r.1.map (sm_ev b sb)) ∧ sm_Rep b sb D cA r.2 t t.heap ∧ (∀ v, r.1 = some v → sm_ok v) ∧ va_F (fun x => b ≤ x) st t
def sm_Met (l : Launch) (y : MethodName) (bytes : ByteArray) (maxL : Nat) (ret : Option FieldType) (lev mc ms : Nat) (Pre : List sm_V → sm_W → Prop) (F : sm_F) : Prop := ∀ b sb D cA as w, Pre as w → Met l y (Cond.code y bytes maxL ret :: sm_tbl) (sm_rm lev mc ms) (sm_Pc b sb D cA as w) (sm_Qc b sb D cA (F as w)) mc ms (fun x => b ≤ x)
theorem sm_Pc_blind {b sb : Nat} {D : va_G} {cA : Nat → ClassId} {as : List sm_V} {w : sm_W} : FrameBlind (sm_Pc b sb D cA as w) := fun a U g mk h => ⟨h.1, sm_Rep.moved (u := U) (U := U.calling g mk a) (Vm.Alike.refl U.vm) h.2.1, va_K.moved (u := U) (U := U.calling g mk a) (Vm.Alike.refl U.vm) h.2.2.1, sm_Ex.same (u := U) (U := U.calling g mk a) rfl h.2.2.2.1, h.2.2.2.2⟩
theorem sm_pop_spec : ∀ {n : Nat} {st acc as rest : List sm_V}, sm_pop n st acc = some (as, rest) → ∃ xs : List sm_V, xs.length = n ∧ st = xs ++ rest ∧ as = xs.reverse ++ acc
  | 0, st, acc, as, rest, h => by
    cases h
    exact ⟨[], rfl, rfl, rfl⟩
  | n + 1, [], acc, as, rest, h => by cases h
  | n + 1, v :: st, acc, as, rest, h => by
    obtain ⟨xs, h1, h2, h3⟩ := sm_pop_spec (n := n) (st := st) (acc := v :: acc) h
    exact ⟨v :: xs, by simp [h1], by rw [h2]; rfl, by rw [h3]; simp⟩
section
variable {p : Program} {l : Launch} {e : Env} {R : Room} {s : State} {m : MethodId} {args : Array Value} {below : List Frame} {meth : Method} {c : Code} {H : Heap} {locs : List Loc} {Q : State → Prop} {b sb : Nat} {D : va_G} {cA : Nat → ClassId} {H0 : Heap}
theorem sm_after {k q mc ms pc : Nat} {lsA : Array Slot} {st0 rest : List Value} {a : Array Value} {r : Option sm_V × sm_W} (hr : va_Run p l e R s m args below meth c H locs k q mc ms (F0 m pc lsA st0) rest (sm_Qc b sb D cA r a) (fun x => b ≤ x)) (hbH : b ≤ H0.size) (hS : va_S (fun x => b ≤ x) H0 H locs)
    (kk : ∀ (H1 : Heap) (locs1 : List Loc), sm_Rep b sb D cA r.2 s H1 → va_S (fun x => b ≤ x) H0 H1 locs1 → (∀ v, r.1 = some v → sm_ok v) → W p l e R s m args below meth c H1 locs1 (k + mc) (q + ms) Q (F0 m (pc + 3) lsA ((r.1.map (sm_ev b sb)).toList ++ rest))) : W p l e R s m args below meth c H locs k q Q (F0 m pc lsA st0) := by
  intro T hT X
  obtain ⟨v, st₀, t, T', L, h0, X', hL, e1, e2, ⟨hv, hR, hok, hz, hk⟩, st⟩ := hr T hT X
  cases hv
  rw [h0] at hz hk
  have hal : t.vm.Alike s.vm := by rw [← e2]; exact X'.warmed.alike.symm
  obtain ⟨t2, a1, b1⟩ := kk T'.heap (locs ++ L) (by rw [e1]; exact hR.moved hal)
    ⟨Nat.le_trans hS.1 (by rw [e1]; exact hz), fun x h1 h2 => by rw [e1, hk x (Nat.lt_of_lt_of_le h1 hS.1) h2]; exact hS.2.1 x h1 h2, fun x hx => by
      rcases List.mem_append.mp hx with h | h
      · exact hS.2.2 x h
      · exact hL x h⟩ hok T' rfl X'
  exact ⟨t2, st t2 a1, b1⟩
end
section
variable {l : Launch} {own nm : String} {cc : ByteArray} {nL : Nat} {z : Nat} {lev : Nat} {pc : Nat}
theorem sm_back_go {p : Program} {e : Env} {R : Room} {s : State} {m : MethodId} {args : Array Value} {below : List Frame} {meth : Method} {c : Code} {Q : State → Prop} {b sb : Nat} {D : va_G} {cA : Nat → ClassId} {H0 : Heap} {Nx : sm_K} {pc' : Nat} (hN : ∀ ls st w k q, Nx ls st w k q → sm_Wz p l e R s m args below meth c Q b sb D cA H0 nL pc' ls st w k q) {ls : List (Option sm_V)} {st : List sm_V} {k q : Nat} {r : Option sm_V × sm_W} (h : sm_back Nx ls st k q r)
    (H : Heap) (locs : List Loc) (lsA : Array Slot) (hR : sm_Rep b sb D cA r.2 s H) (hS : va_S (fun x => b ≤ x) H0 H locs) (hL : sm_L nL b sb lsA ls) (ho : ∀ v, some v ∈ ls → sm_ok v) (hs : ∀ v ∈ st, sm_ok v) (hok : ∀ v, r.1 = some v → sm_ok v) : W p l e R s m args below meth c H locs k q Q (F0 m pc' lsA ((r.1.map (sm_ev b sb)).toList ++ st.map (sm_ev b sb))) := by
  obtain ⟨v, w⟩ := r
  cases v with
  | none => exact hN _ _ _ _ _ h H locs lsA hR hS hL ho hs
  | some v => exact hN _ _ _ _ _ h H locs lsA hR hS hL ho (sm_ok_cons (hok v rfl) hs)

theorem sd_callv {y : MethodName} {bytes : ByteArray} {maxL : Nat} {ret : Option FieldType} {lv mc ms n idx : Nat} {Pre : List sm_V → sm_W → Prop} {F : sm_F} (hM : sm_Met l y bytes maxL ret lv mc ms Pre F) (hlv : lv + 1 ≤ lev) (hmx : maxL ≤ 21) (hcode : Cond.code y bytes maxL ret ∈ sm_tbl) (hlink : Cond.methodLink own idx y ∈ sm_tbl) (hini : Cond.initialized y.cls ∈ sm_tbl) (hdd : y.cls ≠ "java/lang/invoke/MethodHandle" ∧ y.cls ≠ "java/lang/invoke/VarHandle" ∧ (parseMethodDescriptor y.desc).map (fun d => d.parameters.length) = some n) {ci N : Nat} {C : String} {T : u_T} (hcl : sm_Cl ci C T N) (hinst : Cond.instanceMethod y ∈ sm_tbl) (hsel : Cond.selects C y y ∈ sm_tbl) (hd : decode cc pc = .ok (.invokevirtual idx, 3)) : sm_Snd l own nm cc nL z lev pc (pc + 3) (oCv ci N Pre F mc ms (n + 1)) := by
  intro p e R s m args below meth c Q b sb D cA H0 P hC Nx J hN hJ ls st w kc qc h
  obtain ⟨hx, hb, hml, hown, hts, hK, hbH, hRc, hRs, hRf, hRl, hnm, hEx, hI, hV⟩ := id hC
  dsimp only [oCv] at h
  split at h
  · next a as st' hp =>
    obtain ⟨h0, h1, h2, h3, h4, h⟩ := h
    obtain ⟨xs, x1, x2, x3⟩ := sm_pop_spec hp
    subst x2
    rw [List.append_nil] at x3
    intro H locs lsA hR hS hL ho hs
    have hsr : ∀ v ∈ st', sm_ok v := fun v hv => hs v (List.mem_append_right _ hv)
    have hsa : ∀ v ∈ (.inr (.inl a) :: as : List sm_V), sm_ok v := fun v hv => hs v (List.mem_append_left _ (List.mem_reverse.mp (by rw [← x3]; exact hv)))
    have hG : GoodIn sm_tbl (Cond.code y bytes maxL ret :: sm_tbl) := sm_goodIn (fun w hw => (List.mem_cons.mp hw).elim (fun e => e ▸ hcode) id)
    have hB := callB_of n hts hG rfl rfl rfl (hts _ hini) (hts _ hlink) hdd (rm := sm_rm lv mc ms) (R := R) ⟨by show lv + 1 ≤ _; omega, by show 8 + (maxL + 11) + 40 * lv ≤ _; omega⟩
    have hxs : xs.map (sm_ev b sb) = (as.map (sm_ev b sb)).reverse ++ [.ref (sm_ea b sb a)] := by
      have hxx : xs = (.inr (.inl a) :: as : List sm_V).reverse := by rw [x3, List.reverse_reverse]
      rw [hxx, List.reverse_cons, List.map_append, List.map_reverse]
      rfl
    have hla : as.length = n := by
      have hl2 := congrArg List.length x3
      rw [List.length_cons, List.length_reverse, x1] at hl2
      omega
    refine sm_after (r := F (.inr (.inl a) :: as) w) (va_runV ⟨hx, hb, hml, hown, hts⟩ (hM b sb D cA (.inr (.inl a) :: as) w h1) ⟨hB, hts _ hinst, hts _ hsel⟩ ⟨sm_Pc_blind, va_recv hK hR.2.2.1 hcl.1 (q0 := a) (fs := (List.range N).map (sm_fv b sb w a ci)) (by rw [sm_ws_get (sm_lt hR (a := a) (by rw [h0]; have := hcl.2.1; dsimp only; omega)), sm_E_o h0 hcl.2.1]), fun U hU hW => ⟨rfl, by rw [hU]; exact hR.moved hW.alike, va_K.moved hW.alike hK, hEx.warm hW, hsa⟩⟩ (g := F0 m pc lsA ((xs ++ st').map (sm_ev b sb))) (As := as.map (sm_ev b sb)) rfl (by rw [List.length_map, hla]) hL.1 (rest := st'.map (sm_ev b sb)) (by show (xs ++ st').map (sm_ev b sb) = _; rw [List.map_append, hxs, List.append_assoc]; rfl) (lv_room (pc := pc) (ls := lsA) (rest := []) (m := m) (by rw [sm_wds_map]; exact h2)) hd ⟨by rw [hRc]; exact h3, by rw [hRs]; exact h4⟩) hbH hS (fun H1 locs1 hR1 hS1 hok => ?_)
    exact sm_back_go hN h H1 locs1 lsA hR1 hS1 hL ho hsr hok
  · exact h.elim

theorem sd_calli {y : MethodName} {bytes : ByteArray} {maxL : Nat} {lv mc ms n idx : Nat} {Pre : List sm_V → sm_W → Prop} {F : sm_F} (hM : sm_Met l y bytes maxL none lv mc ms Pre F) (hlv : lv + 1 ≤ lev) (hmx : maxL ≤ 21) (hcode : Cond.code y bytes maxL none ∈ sm_tbl) (hlink : Cond.methodLink own idx y ∈ sm_tbl) (hini : Cond.initialized y.cls ∈ sm_tbl) (hdd : y.cls ≠ "java/lang/invoke/MethodHandle" ∧ y.cls ≠ "java/lang/invoke/VarHandle" ∧ (parseMethodDescriptor y.desc).map (fun d => d.parameters.length) = some n) (hin : y.name = "<init>") (hinst : Cond.instanceMethod y ∈ sm_tbl) (hd : decode cc pc = .ok (.invokespecial idx, 3)) : sm_Snd l own nm cc nL z lev pc (pc + 3) (oCi Pre F mc ms (n + 1)) := by
  intro p e R s m args below meth c Q b sb D cA H0 P hC Nx J hN hJ ls st w kc qc h
  obtain ⟨hx, hb, hml, hown, hts, hK, hbH, hRc, hRs, hRf, hRl, hnm, hEx, hI, hV⟩ := id hC
  dsimp only [oCi] at h
  split at h
  · next a as st' hp =>
    obtain ⟨h1, h2, h3, h4, h⟩ := h
    obtain ⟨xs, x1, x2, x3⟩ := sm_pop_spec hp
    subst x2
    rw [List.append_nil] at x3
    intro H locs lsA hR hS hL ho hs
    have hsr : ∀ v ∈ st', sm_ok v := fun v hv => hs v (List.mem_append_right _ hv)
    have hsa : ∀ v ∈ (.inr (.inl a) :: as : List sm_V), sm_ok v := fun v hv => hs v (List.mem_append_left _ (List.mem_reverse.mp (by rw [← x3]; exact hv)))
    have hG : GoodIn sm_tbl (Cond.code y bytes maxL none :: sm_tbl) := sm_goodIn (fun w hw => (List.mem_cons.mp hw).elim (fun e => e ▸ hcode) id)
    have hB := callB_of n hts hG rfl rfl rfl (hts _ hini) (hts _ hlink) hdd (rm := sm_rm lv mc ms) (R := R) ⟨by show lv + 1 ≤ _; omega, by show 8 + (maxL + 11) + 40 * lv ≤ _; omega⟩
    have hxs : xs.map (sm_ev b sb) = (as.map (sm_ev b sb)).reverse ++ [.ref (sm_ea b sb a)] := by
      have hxx : xs = (.inr (.inl a) :: as : List sm_V).reverse := by rw [x3, List.reverse_reverse]
      rw [hxx, List.reverse_cons, List.map_append, List.map_reverse]
      rfl
    have hla : as.length = n := by
      have hl2 := congrArg List.length x3
      rw [List.length_cons, List.length_reverse, x1] at hl2
      omega
    refine sm_after (r := F (.inr (.inl a) :: as) w) (va_runI ⟨hx, hb, hml, hown, hts⟩ (hM b sb D cA (.inr (.inl a) :: as) w h1) ⟨hB, hin, hts _ hinst⟩ ⟨sm_Pc_blind, fun U hU hW => ⟨rfl, by rw [hU]; exact hR.moved hW.alike, va_K.moved hW.alike hK, hEx.warm hW, hsa⟩⟩ (g := F0 m pc lsA ((xs ++ st').map (sm_ev b sb))) (As := as.map (sm_ev b sb)) rfl (by rw [List.length_map, hla]) hL.1 (rest := st'.map (sm_ev b sb)) (by show (xs ++ st').map (sm_ev b sb) = _; rw [List.map_append, hxs, List.append_assoc]; rfl) (lv_room (pc := pc) (ls := lsA) (rest := []) (m := m) (by rw [sm_wds_map]; exact h2)) hd ⟨by rw [hRc]; exact h3, by rw [hRs]; exact h4⟩) hbH hS (fun H1 locs1 hR1 hS1 hok => ?_)
    exact sm_back_go hN h H1 locs1 lsA hR1 hS1 hL ho hsr hok
  · exact h.elim

theorem sd_calls {y : MethodName} {bytes : ByteArray} {maxL : Nat} {ret : Option FieldType} {lv mc ms n idx : Nat} {Pre : List sm_V → sm_W → Prop} {F : sm_F} (hM : sm_Met l y bytes maxL ret lv mc ms Pre F) (hlv : lv + 1 ≤ lev) (hmx : maxL ≤ 21) (hcode : Cond.code y bytes maxL ret ∈ sm_tbl) (hlink : Cond.methodLink own idx y ∈ sm_tbl) (hini : Cond.initialized y.cls ∈ sm_tbl) (hdd : y.cls ≠ "java/lang/invoke/MethodHandle" ∧ y.cls ≠ "java/lang/invoke/VarHandle" ∧ (parseMethodDescriptor y.desc).map (fun d => d.parameters.length) = some n) (hst : Cond.static y ∈ sm_tbl) (hd : decode cc pc = .ok (.invokestatic idx, 3)) : sm_Snd l own nm cc nL z lev pc (pc + 3) (oCs Pre F mc ms n) := by
  intro p e R s m args below meth c Q b sb D cA H0 P hC Nx J hN hJ ls st w kc qc h
  obtain ⟨hx, hb, hml, hown, hts, hK, hbH, hRc, hRs, hRf, hRl, hnm, hEx, hI, hV⟩ := id hC
  dsimp only [oCs] at h
  split at h
  · next as st' hp =>
    obtain ⟨h1, h2, h3, h4, h⟩ := h
    obtain ⟨xs, x1, x2, x3⟩ := sm_pop_spec hp
    subst x2
    rw [List.append_nil] at x3
    subst x3
    intro H locs lsA hR hS hL ho hs
    have hsr : ∀ v ∈ st', sm_ok v := fun v hv => hs v (List.mem_append_right _ hv)
    have hsa : ∀ v ∈ xs.reverse, sm_ok v := fun v hv => hs v (List.mem_append_left _ (List.mem_reverse.mp hv))
    have hG : GoodIn sm_tbl (Cond.code y bytes maxL ret :: sm_tbl) := sm_goodIn (fun w hw => (List.mem_cons.mp hw).elim (fun e => e ▸ hcode) id)
    have hB := callB_of n hts hG rfl rfl rfl (hts _ hini) (hts _ hlink) hdd (rm := sm_rm lv mc ms) (R := R) ⟨by show lv + 1 ≤ _; omega, by show 8 + (maxL + 11) + 40 * lv ≤ _; omega⟩
    refine sm_after (r := F xs.reverse w) (va_runS ⟨hx, hb, hml, hown, hts⟩ (hM b sb D cA xs.reverse w h1) ⟨hB, hts _ hst⟩ ⟨sm_Pc_blind, fun U hU hW => ⟨rfl, by rw [hU]; exact hR.moved hW.alike, va_K.moved hW.alike hK, hEx.warm hW, hsa⟩⟩ (g := F0 m pc lsA ((xs ++ st').map (sm_ev b sb))) rfl (by rw [List.length_map, List.length_reverse, x1]) hL.1 (rest := st'.map (sm_ev b sb)) (by show (xs ++ st').map (sm_ev b sb) = _; rw [List.map_append, List.map_reverse, List.reverse_reverse]) (lv_room (pc := pc) (ls := lsA) (rest := []) (m := m) (by rw [sm_wds_map]; exact h2)) hd ⟨by rw [hRc]; exact h3, by rw [hRs]; exact h4⟩) hbH hS (fun H1 locs1 hR1 hS1 hok => ?_)
    exact sm_back_go hN h H1 locs1 lsA hR1 hS1 hL ho hsr hok
  · exact h.elim

theorem sd_callsN {y : MethodName} {bytes : ByteArray} {maxL : Nat} {ret : Option FieldType} {lv mc ms n idx : Nat} {Pre : List sm_V → sm_W → Prop} {F : sm_F} (hM : sm_Met l y bytes maxL ret lv mc ms Pre F) (hlv : lv + 1 ≤ lev) (hmx : maxL ≤ 21) (hcode : Cond.code y bytes maxL ret ∈ sm_tbl) (hlink : (own, idx, y) ∈ sm_nest) (hini : Cond.initialized y.cls ∈ sm_tbl) (hdd : y.cls ≠ "java/lang/invoke/MethodHandle" ∧ y.cls ≠ "java/lang/invoke/VarHandle" ∧ (parseMethodDescriptor y.desc).map (fun d => d.parameters.length) = some n) (hst : Cond.static y ∈ sm_tbl) (hd : decode cc pc = .ok (.invokestatic idx, 3)) : sm_Snd l own nm cc nL z lev pc (pc + 3) (oCs Pre F mc ms n) := by
  intro p e R s m args below meth c Q b sb D cA H0 P hC Nx J hN hJ ls st w kc qc h
  obtain ⟨hx, hb, hml, hown, hts, hK, hbH, hRc, hRs, hRf, hRl, hnm, hEx, hI, hV⟩ := id hC
  dsimp only [oCs] at h
  split at h
  · next as st' hp =>
    obtain ⟨h1, h2, h3, h4, h⟩ := h
    obtain ⟨xs, x1, x2, x3⟩ := sm_pop_spec hp
    subst x2
    rw [List.append_nil] at x3
    subst x3
    intro H locs lsA hR hS hL ho hs
    have hsr : ∀ v ∈ st', sm_ok v := fun v hv => hs v (List.mem_append_right _ hv)
    have hsa : ∀ v ∈ xs.reverse, sm_ok v := fun v hv => hs v (List.mem_append_left _ (List.mem_reverse.mp hv))
    have hG : GoodIn sm_tbl (Cond.code y bytes maxL ret :: sm_tbl) := sm_goodIn (fun w hw => (List.mem_cons.mp hw).elim (fun e => e ▸ hcode) id)
    have hB := va_cnB n hts hG rfl rfl rfl (hEx.2.2 (own, idx, y) hlink) (hts _ hini) hdd (rm := sm_rm lv mc ms) (R := R) ⟨by show lv + 1 ≤ _; omega, by show 8 + (maxL + 11) + 40 * lv ≤ _; omega⟩
    refine sm_after (r := F xs.reverse w) (va_runSN ⟨hx, hb, hml, hown, hts⟩ (hM b sb D cA xs.reverse w h1) ⟨hB, hts _ hst, trivial⟩ ⟨sm_Pc_blind, fun U hU hW => ⟨rfl, by rw [hU]; exact hR.moved hW.alike, va_K.moved hW.alike hK, hEx.warm hW, hsa⟩⟩ (g := F0 m pc lsA ((xs ++ st').map (sm_ev b sb))) rfl (by rw [List.length_map, List.length_reverse, x1]) hL.1 (rest := st'.map (sm_ev b sb)) (by show (xs ++ st').map (sm_ev b sb) = _; rw [List.map_append, List.map_reverse, List.reverse_reverse]) (lv_room (pc := pc) (ls := lsA) (rest := []) (m := m) (by rw [sm_wds_map]; exact h2)) hd ⟨by rw [hRc]; exact h3, by rw [hRs]; exact h4⟩) hbH hS (fun H1 locs1 hR1 hS1 hok => ?_)
    exact sm_back_go hN h H1 locs1 lsA hR1 hS1 hL ho hsr hok
  · exact h.elim

theorem sd_calliN {y : MethodName} {bytes : ByteArray} {maxL : Nat} {lv mc ms n idx : Nat} {Pre : List sm_V → sm_W → Prop} {F : sm_F} (hM : sm_Met l y bytes maxL none lv mc ms Pre F) (hlv : lv + 1 ≤ lev) (hmx : maxL ≤ 21) (hcode : Cond.code y bytes maxL none ∈ sm_tbl) (hlink : (own, idx, y) ∈ sm_nest) (hini : Cond.initialized y.cls ∈ sm_tbl) (hdd : y.cls ≠ "java/lang/invoke/MethodHandle" ∧ y.cls ≠ "java/lang/invoke/VarHandle" ∧ (parseMethodDescriptor y.desc).map (fun d => d.parameters.length) = some n) (hin : y.name = "<init>") (hinst : Cond.instanceMethod y ∈ sm_tbl) (hd : decode cc pc = .ok (.invokespecial idx, 3)) : sm_Snd l own nm cc nL z lev pc (pc + 3) (oCi Pre F mc ms (n + 1)) := by
  intro p e R s m args below meth c Q b sb D cA H0 P hC Nx J hN hJ ls st w kc qc h
  obtain ⟨hx, hb, hml, hown, hts, hK, hbH, hRc, hRs, hRf, hRl, hnm, hEx, hI, hV⟩ := id hC
  dsimp only [oCi] at h
  split at h
  · next a as st' hp =>
    obtain ⟨h1, h2, h3, h4, h⟩ := h
    obtain ⟨xs, x1, x2, x3⟩ := sm_pop_spec hp
    subst x2
    rw [List.append_nil] at x3
    intro H locs lsA hR hS hL ho hs
    have hsr : ∀ v ∈ st', sm_ok v := fun v hv => hs v (List.mem_append_right _ hv)
    have hsa : ∀ v ∈ (.inr (.inl a) :: as : List sm_V), sm_ok v := fun v hv => hs v (List.mem_append_left _ (List.mem_reverse.mp (by rw [← x3]; exact hv)))
    have hG : GoodIn sm_tbl (Cond.code y bytes maxL none :: sm_tbl) := sm_goodIn (fun w hw => (List.mem_cons.mp hw).elim (fun e => e ▸ hcode) id)
    have hB := va_cnB n hts hG rfl rfl rfl (hEx.2.2 (own, idx, y) hlink) (hts _ hini) hdd (rm := sm_rm lv mc ms) (R := R) ⟨by show lv + 1 ≤ _; omega, by show 8 + (maxL + 11) + 40 * lv ≤ _; omega⟩
    have hxs : xs.map (sm_ev b sb) = (as.map (sm_ev b sb)).reverse ++ [.ref (sm_ea b sb a)] := by
      have hxx : xs = (.inr (.inl a) :: as : List sm_V).reverse := by rw [x3, List.reverse_reverse]
      rw [hxx, List.reverse_cons, List.map_append, List.map_reverse]
      rfl
    have hla : as.length = n := by
      have hl2 := congrArg List.length x3
      rw [List.length_cons, List.length_reverse, x1] at hl2
      omega
    refine sm_after (r := F (.inr (.inl a) :: as) w) (va_runIN ⟨hx, hb, hml, hown, hts⟩ (hM b sb D cA (.inr (.inl a) :: as) w h1) ⟨hB, hin, hts _ hinst⟩ ⟨sm_Pc_blind, fun U hU hW => ⟨rfl, by rw [hU]; exact hR.moved hW.alike, va_K.moved hW.alike hK, hEx.warm hW, hsa⟩⟩ (g := F0 m pc lsA ((xs ++ st').map (sm_ev b sb))) (As := as.map (sm_ev b sb)) rfl (by rw [List.length_map, hla]) hL.1 (rest := st'.map (sm_ev b sb)) (by show (xs ++ st').map (sm_ev b sb) = _; rw [List.map_append, hxs, List.append_assoc]; rfl) (lv_room (pc := pc) (ls := lsA) (rest := []) (m := m) (by rw [sm_wds_map]; exact h2)) hd ⟨by rw [hRc]; exact h3, by rw [hRs]; exact h4⟩) hbH hS (fun H1 locs1 hR1 hS1 hok => ?_)
    exact sm_back_go hN h H1 locs1 lsA hR1 hS1 hL ho hsr hok
  · exact h.elim

theorem sd_ireturn {x : Nat} (hz : z = 1) (hd : decode cc pc = .ok (.ireturn, 1)) : sm_Snd l own nm cc nL z lev pc (x) (oIr) := by
  intro p e R s m args below meth c Q b sb D cA H0 P hC Nx J hN hJ ls st w kc qc h
  obtain ⟨hx, hb, hml, hown, hts, hK, hbH, hRc, hRs, hRf, hRl, hnm, hEx, hI, hV⟩ := id hC
  dsimp only [oIr] at h
  split at h
  · next n =>
    obtain ⟨h1, h2, h⟩ := h
    intro H locs lsA hR hS hL ho hs
    exact hI pc H locs lsA w kc qc n hd (by omega) (fun e => by omega) h (sm_ok_hd hs) h1 h2 hR hS
  · exact h.elim

theorem sd_zreturn {x : Nat} (hz : z = 2) (hd : decode cc pc = .ok (.ireturn, 1)) : sm_Snd l own nm cc nL z lev pc (x) (oZr) := by
  intro p e R s m args below meth c Q b sb D cA H0 P hC Nx J hN hJ ls st w kc qc h
  obtain ⟨hx, hb, hml, hown, hts, hK, hbH, hRc, hRs, hRf, hRl, hnm, hEx, hI, hV⟩ := id hC
  dsimp only [oZr] at h
  split at h
  · next n =>
    obtain ⟨h0, h1, h2, h⟩ := h
    intro H locs lsA hR hS hL ho hs
    exact hI pc H locs lsA w kc qc n hd (by omega) (fun _ => h0) h (sm_ok_hd hs) h1 h2 hR hS
  · exact h.elim

theorem sd_return {x : Nat} (hz : z = 0) (hd : decode cc pc = .ok (.return_, 1)) : sm_Snd l own nm cc nL z lev pc (x) (oVr) := by
  intro p e R s m args below meth c Q b sb D cA H0 P hC Nx J hN hJ ls st w kc qc h
  obtain ⟨hx, hb, hml, hown, hts, hK, hbH, hRc, hRs, hRf, hRl, hnm, hEx, hI, hV⟩ := id hC
  dsimp only [oVr] at h
  split at h
  · obtain ⟨h1, h2, h⟩ := h
    intro H locs lsA hR hS hL ho hs
    exact hV pc H locs lsA w kc qc hd hz h h1 h2 hR hS
  · exact h.elim

end
end
section
/-! THE OTHER STEPS; BLOCKS; A METHOD'S CONTRACT OUT OF A RUN -/
theorem sm_cases_at {J : Nat → Prop} {x : Int} : ∀ {lo : Int} {ts : List Nat} {i : Nat} {t : Nat}, sm_cases J x lo ts → ts[i]? = some t → x = lo + i → J t
  | lo, [], i, t, _, h, _ => by cases h
  | lo, u :: ts, 0, t, hc, h, hx => by
    cases h
    exact hc.1 (by omega)
  | lo, u :: ts, i + 1, t, hc, h, hx => sm_cases_at (i := i) hc.2 h (by omega)
theorem i3_nn {x : Int} (h : 0 ≤ x) (h2 : x < 2147483648) : (Int32.ofInt x).toBitVec.toNat = x.toNat := by
  rw [i3_n h, pk_tn (by omega)]
theorem i3_orN {x y : Nat} (hx : x < 65536) (hy : y < 65536) : nI x ||| nI y = nI (x ||| y) := by
  apply Int32.toBitVec_inj.mp
  apply BitVec.eq_of_toNat_eq
  have hlt : x ||| y < 65536 := Nat.or_lt_two_pow (n := 16) hx hy
  rw [Int32.toBitVec_or, BitVec.toNat_or, pk_tn (by omega), pk_tn (by omega), pk_tn (by omega)]
section
variable {l : Launch} {own nm : String} {cc : ByteArray} {nL : Nat} {z : Nat} {lev : Nat} {pc : Nat}

theorem sd_ldc2 {idx : Nat} {v : Int64} (hl : Cond.constantLong own idx v ∈ sm_tbl) (hd : decode cc pc = .ok (.ldc2_w idx, 3)) : sm_Snd l own nm cc nL z lev pc (pc + 3) (oLK v) := by
  intro p e R s m args below meth c Q b sb D cA H0 P hC Nx J hN hJ ls st w kc qc h
  obtain ⟨hx, hb, hml, hown, hts, hK, hbH, hRc, hRs, hRf, hRl, hnm, hEx, hI, hV⟩ := id hC
  intro H locs lsA hR hS hL ho hs
  exact lv_ldc2 hx hb hown (hts _ hl) hd (hN _ _ _ _ _ h H locs lsA hR hS hL ho (sm_ok_cons (v := .inr (.inr v)) trivial hs))

theorem sd_sw {x : Nat} {d lo hi : Int} {offs : Array Int} {len : Nat} {ts : List Nat} {dt : Nat} (hd : decode cc pc = .ok (.tableswitch d lo hi offs, len)) (hn : (lo + ts.length : Int) = hi + 1) (hdt : (pc : Int) + d = (dt : Int)) (hts2 : offs.toList = ts.map (fun t : Nat => (t : Int) - (pc : Int))) : sm_Snd l own nm cc nL z lev pc (x) (oSw lo ts dt) := by
  intro p e R s m args below meth c Q b sb D cA H0 P hC Nx J hN hJ ls st w kc qc h
  obtain ⟨hx, hb, hml, hown, hts, hK, hbH, hRc, hRs, hRf, hRl, hnm, hEx, hI, hV⟩ := id hC
  dsimp only [oSw] at h
  split at h
  · next x st =>
    intro H locs lsA hR hS hL ho hs
    have hxx : sm_r x := sm_ok_hd hs
    have hst := sm_ok_tl hs
    by_cases hin : x < lo ∨ hi < x
    · exact lv_tableOut hx hb hd (by rw [i3_toInt hxx]; exact hin) hdt (hJ _ _ _ _ _ _ (h.2 (by omega)) H locs lsA hR hS hL ho hst)
    · have h1 : ¬ x < lo := fun e => hin (Or.inl e)
      have h2 : ¬ hi < x := fun e => hin (Or.inr e)
      have hlen : (x - lo).toNat < ts.length := by omega
      obtain ⟨t, ht⟩ : ∃ t, ts[(x - lo).toNat]? = some t := ⟨_, List.getElem?_eq_getElem hlen⟩
      have ho2 : offs[(x - lo).toNat]? = some ((t : Int) - pc) := by
        rw [← Array.getElem?_toList, hts2, List.getElem?_map, ht]
        rfl
      have hjj := sm_cases_at (J := fun t => J t ls st w kc qc) (x := x) h.1 ht (by omega)
      refine lv_tableIn (off := (t : Int) - (pc : Int)) (tgt := t) hx hb hd ?_ ?_ ?_ (by omega) (hJ _ _ _ _ _ _ hjj H locs lsA hR hS hL ho hst)
      · rw [i3_toInt hxx]; exact h1
      · rw [i3_toInt hxx]; exact h2
      · rw [i3_toInt hxx]; exact ho2
  · exact h.elim

theorem sd_iand (hd : decode cc pc = .ok (.iand, 1)) : sm_Snd l own nm cc nL z lev pc (pc + 1) (oAnd) := by
  intro p e R s m args below meth c Q b sb D cA H0 P hC Nx J hN hJ ls st w kc qc h
  obtain ⟨hx, hb, hml, hown, hts, hK, hbH, hRc, hRs, hRf, hRl, hnm, hEx, hI, hV⟩ := id hC
  dsimp only [oAnd] at h
  split at h
  · next y x st =>
    intro H locs lsA hR hS hL ho hs
    have hxx : sm_r x := sm_ok_hd (sm_ok_tl hs)
    have hst := sm_ok_tl (sm_ok_tl hs)
    obtain ⟨h0, h⟩ := h
    subst h0
    have hr : sm_r (x % 32) := ⟨by omega, by omega⟩
    have k := hN _ _ _ _ _ h H locs lsA hR hS hL ho (sm_ok_cons hr hst)
    have he : Int32.ofInt x &&& Int32.ofInt 31 = Int32.ofInt (x % 32) := by
      rw [pk_and _ 5 (by decide), i3_n (i := x % 32) (by omega)]
      congr 1
      show _ % 32 = _
      have h1 : ((Int32.ofInt x).toBitVec.toInt) = x := i3_toInt hxx
      have h2 := BitVec.toInt_eq_toNat_cond (Int32.ofInt x).toBitVec
      have h3 := (Int32.ofInt x).toBitVec.isLt
      have h4 := hxx.1
      have h5 := hxx.2
      rw [h1] at h2
      split at h2 <;> omega
    refine lv_iand hx hb hd ?_
    have k' : W p l e R s m args below meth c H locs kc qc Q (F0 m (pc + 1) lsA (.int (Int32.ofInt (x % 32)) :: st.map (sm_ev b sb))) := k
    rw [← he] at k'
    exact k'
  · exact h.elim

theorem sd_ior (hd : decode cc pc = .ok (.ior, 1)) : sm_Snd l own nm cc nL z lev pc (pc + 1) (oOr) := by
  intro p e R s m args below meth c Q b sb D cA H0 P hC Nx J hN hJ ls st w kc qc h
  obtain ⟨hx, hb, hml, hown, hts, hK, hbH, hRc, hRs, hRf, hRl, hnm, hEx, hI, hV⟩ := id hC
  dsimp only [oOr] at h
  split at h
  · next y x st =>
    intro H locs lsA hR hS hL ho hs
    have hst := sm_ok_tl (sm_ok_tl hs)
    obtain ⟨h1, h2, h3, h4, h⟩ := h
    have hlt : x.toNat ||| y.toNat < 65536 := Nat.or_lt_two_pow (n := 16) (by omega) (by omega)
    have hr : sm_r ((x.toNat ||| y.toNat : Nat) : Int) := ⟨by omega, by omega⟩
    have k := hN _ _ _ _ _ h H locs lsA hR hS hL ho (sm_ok_cons hr hst)
    have he : Int32.ofInt x ||| Int32.ofInt y = Int32.ofInt ((x.toNat ||| y.toNat : Nat) : Int) := by
      rw [i3_n h1, i3_n h3, i3_orN (by omega) (by omega), i3_n (by omega), Int.toNat_natCast]
    refine lv_ior hx hb hd ?_
    have k' : W p l e R s m args below meth c H locs kc qc Q (F0 m (pc + 1) lsA (.int (Int32.ofInt ((x.toNat ||| y.toNat : Nat) : Int)) :: st.map (sm_ev b sb))) := k
    rw [← he] at k'
    exact k'
  · exact h.elim

theorem sd_ishl (hd : decode cc pc = .ok (.ishl, 1)) : sm_Snd l own nm cc nL z lev pc (pc + 1) (oShl) := by
  intro p e R s m args below meth c Q b sb D cA H0 P hC Nx J hN hJ ls st w kc qc h
  obtain ⟨hx, hb, hml, hown, hts, hK, hbH, hRc, hRs, hRf, hRl, hnm, hEx, hI, hV⟩ := id hC
  dsimp only [oShl] at h
  split at h
  · next y x st =>
    intro H locs lsA hR hS hL ho hs
    have hst := sm_ok_tl (sm_ok_tl hs)
    obtain ⟨h1, h2, h3, h⟩ := h
    subst h1
    obtain ⟨n, rfl⟩ : ∃ n : Nat, y = n := ⟨y.toNat, by omega⟩
    have hn : n < 16 := by omega
    have hall : ∀ n : Nat, n < 16 → Int32.ofInt 1 <<< (Int32.ofInt (n : Int) &&& 31) = Int32.ofInt ((2 ^ n : Nat) : Int) ∧ 2 ^ n ≤ 32768 := by decide
    have hr : sm_r ((2 ^ (n : Int).toNat : Nat) : Int) := by
      rw [Int.toNat_natCast]
      have hp := (hall n hn).2
      generalize 2 ^ n = k2 at hp ⊢
      exact ⟨by omega, by omega⟩
    have k := hN _ _ _ _ _ h H locs lsA hR hS hL ho (sm_ok_cons hr hst)
    refine lv_ishl hx hb hd ?_
    have k' : W p l e R s m args below meth c H locs kc qc Q (F0 m (pc + 1) lsA (.int (Int32.ofInt ((2 ^ (n : Int).toNat : Nat) : Int)) :: st.map (sm_ev b sb))) := k
    rw [Int.toNat_natCast, ← (hall n hn).1] at k'
    exact k'
  · exact h.elim

theorem sd_obj {idx : Nat} (hlv : 1 ≤ lev) (hl : Cond.methodLink own idx Lib.objectInit ∈ sm_tbl) (hi : Cond.instanceMethod Lib.objectInit ∈ sm_tbl) (hc : Cond.code Lib.objectInit ⟨#[0xb1]⟩ 1 none ∈ sm_tbl) (hd : decode cc pc = .ok (.invokespecial idx, 3)) : sm_Snd l own nm cc nL z lev pc (pc + 3) (oObj) := by
  intro p e R s m args below meth c Q b sb D cA H0 P hC Nx J hN hJ ls st w kc qc h
  obtain ⟨hx, hb, hml, hown, hts, hK, hbH, hRc, hRs, hRf, hRl, hnm, hEx, hI, hV⟩ := id hC
  dsimp only [oObj] at h
  split at h
  · next a st =>
    obtain ⟨h1, h⟩ := h
    intro H locs lsA hR hS hL ho hs
    refine W.objInit hx hb hown (hts _ hl) (hts _ hi) (hts _ hc) (g := F0 m pc lsA ((.inr (.inl a) :: st).map (sm_ev b sb))) rfl (by rw [hml]; exact hL.1) (rest := st.map (sm_ev b sb)) rfl hd (by omega) ?_ (hN _ _ _ _ _ h H locs lsA hR hS hL ho (sm_ok_tl hs))
    have := lv_room (pc := pc) (ls := lsA) (rest := ((.inr (.inl a) :: st).map (sm_ev b sb))) (m := m) (st := st.map (sm_ev b sb)) (by rw [sm_wds_map]; exact h1)
    omega
  · exact h.elim

theorem sd_new {ci N idx : Nat} {C : String} {T : u_T} (hcl : sm_Cl ci C T N) (hl : Cond.classLink own idx C ∈ sm_tbl) (hi : Cond.instantiable C N ∈ sm_tbl) (hn : Cond.initialized C ∈ sm_tbl) (hd : decode cc pc = .ok (.new idx, 3)) : sm_Snd l own nm cc nL z lev pc (pc + 3) (oNew ci N) := by
  intro p e R s m args below meth c Q b sb D cA H0 P hC Nx J hN hJ ls st w kc qc h
  obtain ⟨hx, hb, hml, hown, hts, hK, hbH, hRc, hRs, hRf, hRl, hnm, hEx, hI, hV⟩ := id hC
  dsimp only [oNew] at h
  obtain ⟨h1, h2, h3, h⟩ := h
  intro H locs lsA hR hS hL ho hs
  have hKn := hK.1 ci _ hcl.1
  refine W.newcK hx hb hown (hts _ hl) (hts _ hi) (hts _ hn) (g := F0 m pc lsA (st.map (sm_ev b sb))) rfl hd (by rw [hRc]; exact h2) (by rw [hRs]; exact h3) hKn.2.1 rfl fun H1 kC hkC e1 z1 o1 => ?_
  have hz := hR.2.1
  have hrep : sm_Rep b sb D cA (wNw w ci N) s H1 := by
    refine sm_add hR h1 rfl (fun id hne => by show (if id = w.1 then _ else _) = _; rw [if_neg hne]; rfl) (fun id i => by show sm_r (if id = w.1 then _ else _); split; exact i3_0; exact hR.2.2.2.1 id i) (fun id hne => sm_E_congr (by show (if id = w.1 then _ else _) = _; rw [if_neg hne]; rfl) (fun i => by show (if id = w.1 then _ else _) = _; rw [if_neg hne]; rfl) (fun i => by show (if id = w.1 then _ else _) = _; rw [if_neg hne]; rfl)) (fun i => by show (if 1000 = w.1 then _ else _) = _; rw [if_neg (by omega)]; rfl) ?_ z1 o1
    rw [sm_E_o (w := wNw w ci N) (a := w.1) (ci := ci) (N := N) (by show (if w.1 = w.1 then _ else _) = _; rw [if_pos rfl]) hcl.2.1]
    refine ⟨_, hcl.1, ?_⟩
    rw [show sm_ea b sb w.1 = H.size by rw [sm_ea_lt h1, hz]]
    refine (u_born (sm_ty ci) hts hcl.2.2.1 hKn hkC e1 hcl.2.2.2.1).to (fun j hj => ?_)
    rw [hcl.2.2.2.2.2.2 j hj]
    show _ = ((List.range N).map (sm_fv b sb (wNw w ci N) w.1 ci)).getD j .null
    rw [List.getD_eq_getElem?_getD, List.getElem?_map, List.getElem?_range hj]
    show _ = sm_fv b sb (wNw w ci N) w.1 ci j
    unfold sm_fv
    have hwr : wR (wNw w ci N) w.1 j = none := by show (if w.1 = w.1 then _ else _) = _; rw [if_pos rfl]
    have hwi : wI (wNw w ci N) w.1 j = 0 := by show (if w.1 = w.1 then _ else _) = _; rw [if_pos rfl]
    rw [hwr, hwi]
    rfl
  have k := hN _ _ _ _ _ h H1 locs lsA hrep ⟨Nat.le_trans hS.1 (by omega), fun x h1 h2 => (o1 x (Nat.lt_of_lt_of_le h1 hS.1)).trans (hS.2.1 x h1 h2), hS.2.2⟩ hL ho (sm_ok_cons (v := .inr (.inl w.1)) trivial hs)
  have e : sm_ev b sb (.inr (.inl w.1)) = .ref H.size := by show Value.ref (sm_ea b sb w.1) = _; rw [sm_ea_lt h1, hz]
  rw [List.map_cons, e] at k
  exact k

theorem sd_newa_i (harr : Cond.arrayClass .int ∈ sm_tbl) (hd : decode cc pc = .ok (.newarray .int, 2)) : sm_Snd l own nm cc nL z lev pc (pc + 2) (oNa 9) := by
  intro p e R s m args below meth c Q b sb D cA H0 P hC Nx J hN hJ ls st w kc qc h
  obtain ⟨hx, hb, hml, hown, hts, hK, hbH, hRc, hRs, hRf, hRl, hnm, hEx, hI, hV⟩ := id hC
  dsimp only [oNa] at h
  split at h
  · next n st =>
    obtain ⟨h0, h00, h1, h2, h3, h⟩ := h
    intro H locs lsA hR hS hL ho hs
    have hnr : sm_r n := sm_ok_hd hs
    have hz := hR.2.1
    have hby : n.toNat * componentBytes (newarray.typeOf .int) ≤ 536870912 := by
      have hcb : componentBytes (newarray.typeOf .int) ≤ 8 := by decide
      exact Nat.le_trans (Nat.mul_le_mul_left _ hcb) (by omega)
    refine va_newaK hx hb (atype := .int) (hts _ harr) (g := F0 m pc lsA ((.inl n :: st).map (sm_ev b sb))) rfl hd (n := Int32.ofInt n) rfl (by rw [i3_z, i3_lt hnr i3_0]; omega) (i3_cN hnr) hby (by rw [hRc]; exact h2) (by rw [hRs]; exact h3) rfl fun H1 cA' e1 z1 o1 hAr hNm => ?_
    have hcls : cA' = cA (9 - 9) := by
      have := (hK.2 (9 - 9) _ rfl).2
      exact Option.some.inj (hNm.symm.trans this)
    subst hcls
    have hrep : sm_Rep b sb D cA (wNw w 9 n.toNat) s H1 := by
      refine sm_add hR h1 rfl (fun id hne => by show (if id = w.1 then _ else _) = _; rw [if_neg hne]; rfl) (fun id i => by show sm_r (if id = w.1 then _ else _); split; exact i3_0; exact hR.2.2.2.1 id i) (fun id hne => sm_E_congr (by show (if id = w.1 then _ else _) = _; rw [if_neg hne]; rfl) (fun i => by show (if id = w.1 then _ else _) = _; rw [if_neg hne]; rfl) (fun i => by show (if id = w.1 then _ else _) = _; rw [if_neg hne]; rfl)) (fun i => by show (if 1000 = w.1 then _ else _) = _; rw [if_neg (by omega)]; rfl) ?_ z1 o1
      have hws : wS (wNw w 9 n.toNat) w.1 = (9, n.toNat) := by show (if w.1 = w.1 then _ else _) = _; rw [if_pos rfl]
      rw [sm_E_i (w := wNw w 9 n.toNat) (a := w.1) (kd := 9) (by rw [hws]) (by decide) (by decide), hws]
      show H1[sm_ea b sb w.1]? = some (vp_cell _ _)
      rw [sm_ea_lt h1, ← hz, e1, vp_cell_i]
      congr 2
      funext j
      have hwi : wI (wNw w 9 n.toNat) w.1 j = 0 := by show (if w.1 = w.1 then _ else _) = _; rw [if_pos rfl]
      rw [hwi]
      rfl
    have k := hN _ _ _ _ _ h H1 locs lsA hrep ⟨Nat.le_trans hS.1 (by omega), fun x h1 h2 => (o1 x (Nat.lt_of_lt_of_le h1 hS.1)).trans (hS.2.1 x h1 h2), hS.2.2⟩ hL ho (sm_ok_cons (v := .inr (.inl w.1)) trivial (sm_ok_tl hs))
    have e : sm_ev b sb (.inr (.inl w.1)) = .ref H.size := by show Value.ref (sm_ea b sb w.1) = _; rw [sm_ea_lt h1, hz]
    rw [List.map_cons, e] at k
    exact k
  · exact h.elim

theorem sd_newa_z (harr : Cond.arrayClass .boolean ∈ sm_tbl) (hd : decode cc pc = .ok (.newarray .boolean, 2)) : sm_Snd l own nm cc nL z lev pc (pc + 2) (oNa 10) := by
  intro p e R s m args below meth c Q b sb D cA H0 P hC Nx J hN hJ ls st w kc qc h
  obtain ⟨hx, hb, hml, hown, hts, hK, hbH, hRc, hRs, hRf, hRl, hnm, hEx, hI, hV⟩ := id hC
  dsimp only [oNa] at h
  split at h
  · next n st =>
    obtain ⟨h0, h00, h1, h2, h3, h⟩ := h
    intro H locs lsA hR hS hL ho hs
    have hnr : sm_r n := sm_ok_hd hs
    have hz := hR.2.1
    have hby : n.toNat * componentBytes (newarray.typeOf .boolean) ≤ 536870912 := by
      have hcb : componentBytes (newarray.typeOf .boolean) ≤ 8 := by decide
      exact Nat.le_trans (Nat.mul_le_mul_left _ hcb) (by omega)
    refine va_newaK hx hb (atype := .boolean) (hts _ harr) (g := F0 m pc lsA ((.inl n :: st).map (sm_ev b sb))) rfl hd (n := Int32.ofInt n) rfl (by rw [i3_z, i3_lt hnr i3_0]; omega) (i3_cN hnr) hby (by rw [hRc]; exact h2) (by rw [hRs]; exact h3) rfl fun H1 cA' e1 z1 o1 hAr hNm => ?_
    have hcls : cA' = cA (10 - 9) := by
      have := (hK.2 (10 - 9) _ rfl).2
      exact Option.some.inj (hNm.symm.trans this)
    subst hcls
    have hrep : sm_Rep b sb D cA (wNw w 10 n.toNat) s H1 := by
      refine sm_add hR h1 rfl (fun id hne => by show (if id = w.1 then _ else _) = _; rw [if_neg hne]; rfl) (fun id i => by show sm_r (if id = w.1 then _ else _); split; exact i3_0; exact hR.2.2.2.1 id i) (fun id hne => sm_E_congr (by show (if id = w.1 then _ else _) = _; rw [if_neg hne]; rfl) (fun i => by show (if id = w.1 then _ else _) = _; rw [if_neg hne]; rfl) (fun i => by show (if id = w.1 then _ else _) = _; rw [if_neg hne]; rfl)) (fun i => by show (if 1000 = w.1 then _ else _) = _; rw [if_neg (by omega)]; rfl) ?_ z1 o1
      have hws : wS (wNw w 10 n.toNat) w.1 = (10, n.toNat) := by show (if w.1 = w.1 then _ else _) = _; rw [if_pos rfl]
      rw [sm_E_i (w := wNw w 10 n.toNat) (a := w.1) (kd := 10) (by rw [hws]) (by decide) (by decide), hws]
      show H1[sm_ea b sb w.1]? = some (vp_cell _ _)
      rw [sm_ea_lt h1, ← hz, e1, vp_cell_i]
      congr 2
      funext j
      have hwi : wI (wNw w 10 n.toNat) w.1 j = 0 := by show (if w.1 = w.1 then _ else _) = _; rw [if_pos rfl]
      rw [hwi]
      rfl
    have k := hN _ _ _ _ _ h H1 locs lsA hrep ⟨Nat.le_trans hS.1 (by omega), fun x h1 h2 => (o1 x (Nat.lt_of_lt_of_le h1 hS.1)).trans (hS.2.1 x h1 h2), hS.2.2⟩ hL ho (sm_ok_cons (v := .inr (.inl w.1)) trivial (sm_ok_tl hs))
    have e : sm_ev b sb (.inr (.inl w.1)) = .ref H.size := by show Value.ref (sm_ea b sb w.1) = _; rw [sm_ea_lt h1, hz]
    rw [List.map_cons, e] at k
    exact k
  · exact h.elim

theorem sd_newa_c (harr : Cond.arrayClass .char ∈ sm_tbl) (hd : decode cc pc = .ok (.newarray .char, 2)) : sm_Snd l own nm cc nL z lev pc (pc + 2) (oNa 11) := by
  intro p e R s m args below meth c Q b sb D cA H0 P hC Nx J hN hJ ls st w kc qc h
  obtain ⟨hx, hb, hml, hown, hts, hK, hbH, hRc, hRs, hRf, hRl, hnm, hEx, hI, hV⟩ := id hC
  dsimp only [oNa] at h
  split at h
  · next n st =>
    obtain ⟨h0, h00, h1, h2, h3, h⟩ := h
    intro H locs lsA hR hS hL ho hs
    have hnr : sm_r n := sm_ok_hd hs
    have hz := hR.2.1
    have hby : n.toNat * componentBytes (newarray.typeOf .char) ≤ 536870912 := by
      have hcb : componentBytes (newarray.typeOf .char) ≤ 8 := by decide
      exact Nat.le_trans (Nat.mul_le_mul_left _ hcb) (by omega)
    refine va_newaK hx hb (atype := .char) (hts _ harr) (g := F0 m pc lsA ((.inl n :: st).map (sm_ev b sb))) rfl hd (n := Int32.ofInt n) rfl (by rw [i3_z, i3_lt hnr i3_0]; omega) (i3_cN hnr) hby (by rw [hRc]; exact h2) (by rw [hRs]; exact h3) rfl fun H1 cA' e1 z1 o1 hAr hNm => ?_
    have hcls : cA' = cA (11 - 9) := by
      have := (hK.2 (11 - 9) _ rfl).2
      exact Option.some.inj (hNm.symm.trans this)
    subst hcls
    have hrep : sm_Rep b sb D cA (wNw w 11 n.toNat) s H1 := by
      refine sm_add hR h1 rfl (fun id hne => by show (if id = w.1 then _ else _) = _; rw [if_neg hne]; rfl) (fun id i => by show sm_r (if id = w.1 then _ else _); split; exact i3_0; exact hR.2.2.2.1 id i) (fun id hne => sm_E_congr (by show (if id = w.1 then _ else _) = _; rw [if_neg hne]; rfl) (fun i => by show (if id = w.1 then _ else _) = _; rw [if_neg hne]; rfl) (fun i => by show (if id = w.1 then _ else _) = _; rw [if_neg hne]; rfl)) (fun i => by show (if 1000 = w.1 then _ else _) = _; rw [if_neg (by omega)]; rfl) ?_ z1 o1
      have hws : wS (wNw w 11 n.toNat) w.1 = (11, n.toNat) := by show (if w.1 = w.1 then _ else _) = _; rw [if_pos rfl]
      rw [sm_E_i (w := wNw w 11 n.toNat) (a := w.1) (kd := 11) (by rw [hws]) (by decide) (by decide), hws]
      show H1[sm_ea b sb w.1]? = some (vp_cell _ _)
      rw [sm_ea_lt h1, ← hz, e1, vp_cell_i]
      congr 2
      funext j
      have hwi : wI (wNw w 11 n.toNat) w.1 j = 0 := by show (if w.1 = w.1 then _ else _) = _; rw [if_pos rfl]
      rw [hwi]
      rfl
    have k := hN _ _ _ _ _ h H1 locs lsA hrep ⟨Nat.le_trans hS.1 (by omega), fun x h1 h2 => (o1 x (Nat.lt_of_lt_of_le h1 hS.1)).trans (hS.2.1 x h1 h2), hS.2.2⟩ hL ho (sm_ok_cons (v := .inr (.inl w.1)) trivial (sm_ok_tl hs))
    have e : sm_ev b sb (.inr (.inl w.1)) = .ref H.size := by show Value.ref (sm_ea b sb w.1) = _; rw [sm_ea_lt h1, hz]
    rw [List.map_cons, e] at k
    exact k
  · exact h.elim

theorem sd_anew {idx : Nat} (hl : Cond.classLink own idx RX2 ∈ sm_tbl) (hd : decode cc pc = .ok (.anewarray idx, 3)) : sm_Snd l own nm cc nL z lev pc (pc + 3) (oNa 12) := by
  intro p e R s m args below meth c Q b sb D cA H0 P hC Nx J hN hJ ls st w kc qc h
  obtain ⟨hx, hb, hml, hown, hts, hK, hbH, hRc, hRs, hRf, hRl, hnm, hEx, hI, hV⟩ := id hC
  dsimp only [oNa] at h
  split at h
  · next n st =>
    obtain ⟨h0, h00, h1, h2, h3, h⟩ := h
    intro H locs lsA hR hS hL ho hs
    have hnr : sm_r n := sm_ok_hd hs
    have hz := hR.2.1
    have hcN := i3_cN hnr
    refine W.anew hx hb hown (hts _ hl) hEx.1.use (g := F0 m pc lsA ((.inl n :: st).map (sm_ev b sb))) rfl hd (n := Int32.ofInt n) rfl (by rw [i3_z, i3_lt hnr i3_0]; omega) (by omega) (by rw [hRc]; exact h2) (by rw [hcN, hRs]; exact h3) fun cA' kA comp f1 f2 f3 f4 => ?_
    rw [hcN]
    generalize hH1 : H.push ({ cls := cA', slots := Array.replicate n.toNat .null, vm := .none } : Cell) = H1
    have z1 : H1.size = H.size + 1 := by rw [← hH1, Array.size_push]
    have e1 : H1[H.size]? = some (arrV cA' n.toNat (fun _ => .null)) := by rw [← hH1, Array.getElem?_push_size, ← arrV_new]
    have o1 : ∀ q : Nat, q < H.size → H1[q]? = H[q]? := fun q hq => by rw [← hH1, Array.getElem?_push, if_neg (Nat.ne_of_lt hq)]
    have hcls : cA' = cA 3 := by
      obtain ⟨_, _, -, -, -, g4⟩ := (hK.2 3 _ rfl).2
      exact Option.some.inj (f1.symm.trans g4)
    subst hcls
    have hrep : sm_Rep b sb D cA (wNw w 12 n.toNat) s H1 := by
      refine sm_add hR h1 rfl (fun id hne => by show (if id = w.1 then _ else _) = _; rw [if_neg hne]; rfl) (fun id i => by show sm_r (if id = w.1 then _ else _); split; exact i3_0; exact hR.2.2.2.1 id i) (fun id hne => sm_E_congr (by show (if id = w.1 then _ else _) = _; rw [if_neg hne]; rfl) (fun i => by show (if id = w.1 then _ else _) = _; rw [if_neg hne]; rfl) (fun i => by show (if id = w.1 then _ else _) = _; rw [if_neg hne]; rfl)) (fun i => by show (if 1000 = w.1 then _ else _) = _; rw [if_neg (by omega)]; rfl) ?_ z1 o1
      have hws : wS (wNw w 12 n.toNat) w.1 = (12, n.toNat) := by show (if w.1 = w.1 then _ else _) = _; rw [if_pos rfl]
      rw [sm_E_r (w := wNw w 12 n.toNat) (a := w.1) (kd := 12) (by rw [hws]) (by decide), hws]
      show H1[sm_ea b sb w.1]? = some (vp_cell _ _)
      rw [sm_ea_lt h1, ← hz, e1, vp_cell_q]
      congr 2
      funext j
      have hwi : wR (wNw w 12 n.toNat) w.1 j = none := by show (if w.1 = w.1 then _ else _) = _; rw [if_pos rfl]
      rw [hwi]
      rfl
    have k := hN _ _ _ _ _ h H1 locs lsA hrep ⟨Nat.le_trans hS.1 (by omega), fun x h1 h2 => (o1 x (Nat.lt_of_lt_of_le h1 hS.1)).trans (hS.2.1 x h1 h2), hS.2.2⟩ hL ho (sm_ok_cons (v := .inr (.inl w.1)) trivial (sm_ok_tl hs))
    have e : sm_ev b sb (.inr (.inl w.1)) = .ref H.size := by show Value.ref (sm_ea b sb w.1) = _; rw [sm_ea_lt h1, hz]
    rw [List.map_cons, e] at k
    exact k
  · exact h.elim

theorem sd_copy {idx : Nat} (hlv : 1 ≤ lev) (hl : Cond.methodLink own idx arraycopyName ∈ sm_tbl) (h1t : Cond.native arraycopyName ∈ sm_tbl) (h2t : Cond.static arraycopyName ∈ sm_tbl) (h3t : Cond.initialized "java/lang/System" ∈ sm_tbl) (hd : decode cc pc = .ok (.invokestatic idx, 3)) : sm_Snd l own nm cc nL z lev pc (pc + 3) (oCopy) := by
  intro p e R s m args below meth c Q b sb D cA H0 P hC Nx J hN hJ ls st w kc qc h
  obtain ⟨hx, hb, hml, hown, hts, hK, hbH, hRc, hRs, hRf, hRl, hnm, hEx, hI, hV⟩ := id hC
  dsimp only [oCopy] at h
  split at h
  · next n dp d sp a st =>
    obtain ⟨h1, h2, h3, h4, h5, h6, h7, h8, h⟩ := h
    subst h3
    subst h4
    intro H locs lsA hR hS hL ho hs
    have hnr : sm_r n := sm_ok_hd hs
    have hst := sm_ok_tl (sm_ok_tl (sm_ok_tl (sm_ok_tl (sm_ok_tl hs))))
    have ha := sm_lt hR (a := a) (by rw [h1]; decide)
    have hdl := sm_lt hR (a := d) (by rw [h2]; decide)
    have hc0 := hR.2.2.1 a _ (sm_ws_get ha)
    rw [sm_E_i h1 (by decide) (by decide)] at hc0
    have hc1 := hR.2.2.1 d _ (sm_ws_get hdl)
    rw [sm_E_i h2 (by decide) (by decide)] at hc1
    have hc0 : H[sm_ea b sb a]? = some (vp_cell (cA 0) ((wS w a).2, .inl (fun j : Nat => Int32.ofInt (wI w a j)))) := hc0
    have hc1 : H[sm_ea b sb d]? = some (vp_cell (cA 0) ((wS w d).2, .inl (fun j : Nat => Int32.ofInt (wI w d j)))) := hc1
    have hcN := i3_cN hnr
    have hn0 : ¬ Int32.ofInt n < 0 := by rw [i3_z, i3_lt hnr i3_0]; omega
    have hz0 : (Int32.ofInt 0).toNatClampNeg = 0 := rfl
    obtain ⟨-, k0, hk0, cm0, hkk0⟩ := (hK.2 0 (cA 0, .int) rfl).1 (wS w a).2 (fun j : Nat => .int (Int32.ofInt (wI w a j)))
    have hk0 : s.vm.classes[cA 0]? = some k0 := hk0
    intro T hT X
    obtain ⟨vm', X', step⟩ := X.arraycopy hx hown (hts _ hl) (hts _ h1t) (hts _ h2t) (hts _ h3t) (src := sm_ea b sb a) (dst := sm_ea b sb d) (cs := vp_cell (cA 0) ((wS w a).2, .inl (fun j : Nat => Int32.ofInt (wI w a j)))) (cd := vp_cell (cA 0) ((wS w d).2, .inl (fun j : Nat => Int32.ofInt (wI w d j)))) (srcPos := Int32.ofInt 0) (destPos := Int32.ofInt 0) (n := Int32.ofInt n) (by rw [hT]; exact hc0) (by rw [hT]; exact hc1)
      (fun _ h => by cases h) (fun _ h => by cases h) (fun h => by cases h) (fun h => by cases h) hk0 hk0 hkk0 hkk0 rfl (by decide) (by decide) hn0
      (by rw [i3_toInt hnr]; show ¬ _ > ((arrV (cA 0) (wS w a).2 (fun j : Nat => .int (Int32.ofInt (wI w a j)))).slots.size : Int); rw [arrV_size]; show ¬ (0 : Int) + n > _; omega)
      (by rw [i3_toInt hnr]; show ¬ _ > ((arrV (cA 0) (wS w d).2 (fun j : Nat => .int (Int32.ofInt (wI w d j)))).slots.size : Int); rw [arrV_size]; show ¬ (0 : Int) + n > _; omega)
      (fun vm₁ _ i hi => by
        have e : (vp_cell (cA 0) ((wS w a).2, .inl (fun j : Nat => Int32.ofInt (wI w a j)))).slots.getD ((Int32.ofInt 0).toNatClampNeg + i) .null = .int (Int32.ofInt (wI w a (((Int32.ofInt 0).toNatClampNeg + i : Nat) : Int))) := by
          show (arrV (cA 0) (wS w a).2 (fun j : Nat => .int (Int32.ofInt (wI w a j)))).slots.getD _ _ = _
          rw [Array.getD_eq_getD_getElem?, arrV_read _ _ (by rw [hz0]; rw [hcN] at hi; omega)]
          rfl
        refine ⟨?_, ?_⟩
        · rw [e]
          rfl
        · rw [e]
          exact trivial)
      (g := F0 m pc lsA ((.inl n :: .inl 0 :: .inr (.inl d) :: .inl 0 :: .inr (.inl a) :: st).map (sm_ev b sb))) rfl (by rw [hml]; exact hL.1) (rest := st.map (sm_ev b sb)) rfl (by rw [hb]; exact hd) (by omega) (by
        have h9 : ((st.map (sm_ev b sb)).map fun v => v.category).sum ≤ 8 := by rw [sm_wds_map]; exact h8
        have h10 : nativeFrameWords "java/lang/System" "arraycopy" 5 = 7 := by decide
        show 2 * 0 + _ + _ ≤ _
        rw [h10]
        omega)
    have e1 : copied (vp_cell (cA 0) ((wS w a).2, .inl (fun j : Nat => Int32.ofInt (wI w a j)))) (vp_cell (cA 0) ((wS w d).2, .inl (fun j : Nat => Int32.ofInt (wI w d j)))) (Int32.ofInt 0) (Int32.ofInt 0) (Int32.ofInt n) = vp_cell (cA 0) ((wS w d).2, .inl (fun j : Nat => Int32.ofInt (wI (wCp w a d n) d j))) := by
      have e0 : copied (vp_cell (cA 0) ((wS w a).2, .inl (fun j : Nat => Int32.ofInt (wI w a j)))) (vp_cell (cA 0) ((wS w d).2, .inl (fun j : Nat => Int32.ofInt (wI w d j)))) (Int32.ofInt 0) (Int32.ofInt 0) (Int32.ofInt n) = vp_cell (cA 0) ((wS w d).2, .inl (va_cpy (fun j : Nat => Int32.ofInt (wI w a j)) (fun j : Nat => Int32.ofInt (wI w d j)) (Int32.ofInt 0).toNatClampNeg (Int32.ofInt 0).toNatClampNeg (Int32.ofInt n).toNatClampNeg)) := va_copied (fun z => Value.int z) (cA 0) (cA 0) (n0 := (wS w a).2) (n1 := (wS w d).2) (fun j : Nat => Int32.ofInt (wI w a j)) (fun j : Nat => Int32.ofInt (wI w d j)) (by rw [hcN, hz0]; omega)
      rw [e0, hcN, hz0]
      congr 2
      refine congrArg Sum.inl (funext fun j => ?_)
      unfold va_cpy
      rw [wI_wCp]
      by_cases hj : (j : Int) < n
      · rw [if_pos ⟨by omega, by omega⟩, if_pos ⟨rfl, by omega, hj⟩]
        rw [show 0 + (j - 0) = j by omega]
      · rw [if_neg (by omega), if_neg (fun e => hj e.2.2)]
    rw [e1] at X' step
    have hl : sm_ea b sb d < H.size := (Array.getElem?_eq_some_iff.mp hc1).1
    have hheap : ((T.setVm vm').setCell (sm_ea b sb d) (vp_cell (cA 0) ((wS w d).2, .inl (fun j : Nat => Int32.ofInt (wI (wCp w a d n) d j))))).heap = H.setIfInBounds (sm_ea b sb d) (vp_cell (cA 0) ((wS w d).2, .inl (fun j : Nat => Int32.ofInt (wI (wCp w a d n) d j)))) := by rw [← hT]; rfl
    generalize hH1 : H.setIfInBounds (sm_ea b sb d) (vp_cell (cA 0) ((wS w d).2, .inl (fun j : Nat => Int32.ofInt (wI (wCp w a d n) d j)))) = H1 at hheap
    have g1 : H1[sm_ea b sb d]? = some (vp_cell (cA 0) ((wS w d).2, .inl (fun j : Nat => Int32.ofInt (wI (wCp w a d n) d j)))) := by rw [← hH1]; simp [Array.getElem?_setIfInBounds, hl]
    have g2 : H1.size = H.size := by rw [← hH1]; simp
    have g3 : ∀ q : Nat, q ≠ sm_ea b sb d → H1[q]? = H[q]? := fun q hq => by rw [← hH1]; simp [Array.getElem?_setIfInBounds, Ne.symm hq]
    have hoff : ∀ id, id ≠ d → ∀ j, wI (wCp w a d n) id j = wI w id j := fun id hne j => by rw [wI_wCp, if_neg (fun e => hne e.1)]
    have hrep : sm_Rep b sb D cA (wCp w a d n) s H1 := by
      refine sm_put hR hdl rfl (fun _ => rfl) (fun id j => by rw [wI_wCp]; split; exact hR.2.2.2.1 a j; exact hR.2.2.2.1 id j) (fun id hne => sm_E_congr rfl (hoff id hne) (fun _ => rfl)) (hoff 1000 (by have := hR.1; omega)) ?_ g2 g3
      rw [sm_E_i (w := wCp w a d n) h2 (by decide) (by decide)]
      exact g1
    obtain ⟨t, a1, b1⟩ := hN _ _ _ _ _ h H1 _ lsA hrep ⟨by rw [g2]; exact hS.1, fun q q1 q2 => by rw [g3 q (fun e => q2 (by rw [e]; exact sm_A hR hdl))]; exact hS.2.1 q q1 q2, fun q hq => by
      rcases List.mem_append.mp hq with h | h
      · exact hS.2.2 q h
      · obtain ⟨z, -, hz⟩ := List.mem_map.mp h
        rw [← hz]
        exact sm_A hR hdl⟩ hL ho hst _ hheap X'
    exact ⟨t, step t a1, b1⟩
  · exact h.elim

end
end
section
/-! BLOCKS, RUNS, AND A METHOD'S CONTRACT OUT OF A RUN -/
def sm_SndB (l : Launch) (own nm : String) (cc : ByteArray) (nL : Nat) (z : Nat) (lev : Nat) (pc : Nat) (os : List sm_O) : Prop :=
  ∀ (p : Program) (e : Env) (R : Room) (s : State) (m : MethodId) (args : Array Value) (below : List Frame) (meth : Method) (c : Code) (Q : State → Prop) (b sb : Nat) (D : va_G) (cA : Nat → ClassId) (H0 : Heap) (P : sm_Par), sm_Cx p l e R s m args below meth c Q b sb D cA H0 nL own nm cc z lev P →
  ∀ (J : Nat → sm_K), (∀ t ls st w k q, J t ls st w k q → sm_Wz p l e R s m args below meth c Q b sb D cA H0 nL t ls st w k q) →
  ∀ ls st w k q, sm_blk P J os ls st w k q → sm_Wz p l e R s m args below meth c Q b sb D cA H0 nL pc ls st w k q
section
variable {l : Launch} {own nm : String} {cc : ByteArray} {nL : Nat} {z : Nat} {lev : Nat}
theorem sb_nil {pc : Nat} : sm_SndB l own nm cc nL z lev pc [] := fun p e R s m args below meth c Q b sb D cA H0 P hC J hJ ls st w k q h => h.elim
theorem sb_cons {pc pc' : Nat} {o : sm_O} {os : List sm_O} (h1 : sm_Snd l own nm cc nL z lev pc pc' o) (h2 : sm_SndB l own nm cc nL z lev pc' os) : sm_SndB l own nm cc nL z lev pc (o :: os) :=
  fun p e R s m args below meth c Q b sb D cA H0 P hC J hJ ls st w k q h => h1 p e R s m args below meth c Q b sb D cA H0 P hC (sm_blk P J os) J (h2 p e R s m args below meth c Q b sb D cA H0 P hC J hJ) hJ ls st w k q h
def sm_get : List (Nat × List sm_O) → Nat → List sm_O
  | [], _ => []
  | (k, os) :: r, t => match Nat.beq t k with
    | true => os
    | false => sm_get r t
def sm_SndT (l : Launch) (own nm : String) (cc : ByteArray) (nL : Nat) (z : Nat) (lev : Nat) (tb : List (Nat × List sm_O)) : Prop := ∀ t, sm_SndB l own nm cc nL z lev t (sm_get tb t)
theorem st_nil : sm_SndT l own nm cc nL z lev [] := fun _ => sb_nil
theorem st_cons {k : Nat} {os : List sm_O} {r : List (Nat × List sm_O)} (h1 : sm_SndB l own nm cc nL z lev k os) (h2 : sm_SndT l own nm cc nL z lev r) : sm_SndT l own nm cc nL z lev ((k, os) :: r) := by
  intro t
  unfold sm_get
  split
  · next h =>
    rw [Nat.eq_of_beq_eq_true h]
    exact h1
  · exact h2 t
theorem sm_run_sound {tb : List (Nat × List sm_O)} (hT : sm_SndT l own nm cc nL z lev tb) {p : Program} {e : Env} {R : Room} {s : State} {m : MethodId} {args : Array Value} {below : List Frame} {meth : Method} {c : Code} {Q : State → Prop} {b sb : Nat} {D : va_G} {cA : Nat → ClassId} {H0 : Heap} {P : sm_Par} (hC : sm_Cx p l e R s m args below meth c Q b sb D cA H0 nL own nm cc z lev P) (stop : Nat → Bool) : ∀ n t ls st w k q, sm_run (sm_get tb) P stop (sm_Wz p l e R s m args below meth c Q b sb D cA H0 nL) n t ls st w k q → sm_Wz p l e R s m args below meth c Q b sb D cA H0 nL t ls st w k q
  | 0, t, ls, st, w, k, q, h => h
  | n + 1, t, ls, st, w, k, q, h => by
    refine hT t p e R s m args below meth c Q b sb D cA H0 P hC _ (fun u ls st w k q hu => ?_) ls st w k q h
    revert hu
    cases stop u with
    | true => exact id
    | false => exact sm_run_sound hT hC stop n u ls st w k q
/-- the locals with which a method begins -/
def sm_ents : List sm_V → List (Option sm_V)
  | [] => []
  | .inr (.inr x) :: r => some (.inr (.inr x)) :: none :: sm_ents r
  | v :: r => some v :: sm_ents r
def sm_ent (nL : Nat) (as : List sm_V) : List (Option sm_V) := sm_ents as ++ List.replicate (nL - sm_wds as) none
theorem sm_ents_len : ∀ as : List sm_V, (sm_ents as).length = sm_wds as
  | [] => rfl
  | .inl n :: r => by
    show (sm_ents r).length + 1 = 1 + sm_wds r
    rw [sm_ents_len r]; omega
  | .inr (.inl a) :: r => by
    show (sm_ents r).length + 1 = 1 + sm_wds r
    rw [sm_ents_len r]; omega
  | .inr (.inr x) :: r => by
    show (sm_ents r).length + 1 + 1 = 2 + sm_wds r
    rw [sm_ents_len r]; omega
theorem sm_ents_at {b sb : Nat} : ∀ (as : List sm_V) (o i : Nat) (v : sm_V), (sm_ents as)[i]? = some (some v) → (o + i, sm_ev b sb v) ∈ lv_args o (as.map (sm_ev b sb))
  | [], o, i, v, h => by simp [sm_ents] at h
  | .inl n :: r, o, i, v, h => by
    rw [List.map_cons, lv_args]
    cases i with
    | zero => cases h; exact List.mem_cons_self
    | succ i =>
      refine List.mem_cons_of_mem _ ?_
      have := sm_ents_at (b := b) (sb := sb) r (o + 1) i v h
      rw [show o + (i + 1) = o + 1 + i by omega]
      exact this
  | .inr (.inl a) :: r, o, i, v, h => by
    rw [List.map_cons, lv_args]
    cases i with
    | zero => cases h; exact List.mem_cons_self
    | succ i =>
      refine List.mem_cons_of_mem _ ?_
      have := sm_ents_at (b := b) (sb := sb) r (o + 1) i v h
      rw [show o + (i + 1) = o + 1 + i by omega]
      exact this
  | .inr (.inr x) :: r, o, i, v, h => by
    rw [List.map_cons, lv_args]
    match i with
    | 0 => cases h; exact List.mem_cons_self
    | 1 => cases h
    | i + 2 =>
      refine List.mem_cons_of_mem _ ?_
      have := sm_ents_at (b := b) (sb := sb) r (o + 2) i v h
      rw [show o + (i + 2) = o + 2 + i by omega]
      exact this
theorem sm_ents_ok {as : List sm_V} (h : ∀ v ∈ as, sm_ok v) : ∀ v, some v ∈ sm_ents as → sm_ok v := by
  induction as with
  | nil => intro v hv; cases hv
  | cons a r ih =>
    intro v hv
    have ih' := ih (fun v hv => h v (List.mem_cons_of_mem _ hv))
    rcases a with n | a | x
    · rcases List.mem_cons.mp hv with e | e
      · cases e; exact h _ List.mem_cons_self
      · exact ih' v e
    · rcases List.mem_cons.mp hv with e | e
      · cases e; exact h _ List.mem_cons_self
      · exact ih' v e
    · rcases List.mem_cons.mp hv with e | e
      · cases e; exact h _ List.mem_cons_self
      · rcases List.mem_cons.mp e with e | e
        · cases e
        · exact ih' v e
theorem sm_entry {b sb : Nat} {as : List sm_V} {lsA : Array Slot} (hw : sm_wds as ≤ nL) (h : lv_has lsA nL (lv_args 0 (as.map (sm_ev b sb)))) : sm_L nL b sb lsA (sm_ent nL as) := by
  refine ⟨h.1, by unfold sm_ent; rw [List.length_append, sm_ents_len, List.length_replicate]; omega, h.2.1, fun i v hi => ?_⟩
  unfold sm_ent at hi
  by_cases hl : i < (sm_ents as).length
  · rw [List.getElem?_append_left hl] at hi
    have := h.2.2 _ (sm_ents_at (b := b) (sb := sb) as 0 i v hi)
    simpa using this
  · rw [List.getElem?_append_right (by omega)] at hi
    have := List.mem_of_getElem? hi
    rw [List.mem_replicate] at this
    cases this.2
theorem sm_lg_len (b sb : Nat) : ∀ as : List sm_V, (lg_sl (as.map (sm_ev b sb))).length = sm_wds as
  | [] => rfl
  | .inl n :: r => by
    show (lg_sl (r.map (sm_ev b sb))).length + 1 = 1 + sm_wds r
    rw [sm_lg_len b sb r]; omega
  | .inr (.inl a) :: r => by
    show (lg_sl (r.map (sm_ev b sb))).length + 1 = 1 + sm_wds r
    rw [sm_lg_len b sb r]; omega
  | .inr (.inr x) :: r => by
    show (lg_sl (r.map (sm_ev b sb))).length + 1 + 1 = 2 + sm_wds r
    rw [sm_lg_len b sb r]; omega
end
/-- what is to be shown of a method in the small machine alone -/
def sm_Ok (tb : List (Nat × List sm_O)) (nL mc ms : Nat) (Pre : List sm_V → sm_W → Prop) (F : sm_F) : Prop :=
  ∀ (as : List sm_V) (w : sm_W), Pre as w → (∀ v ∈ as, sm_ok v) → (∀ id i, sm_r (wI w id i)) → sm_wds as ≤ nL ∧ ∀ Z : Nat → sm_K, (∀ stop n t ls st w' k q, sm_run (sm_get tb) ((fun r w' => (r, w') = F as w), mc, ms) stop Z n t ls st w' k q → Z t ls st w' k q) → Z 0 (sm_ent nL as) [] w 0 0
theorem sm_met {l : Launch} {y : MethodName} {cc : ByteArray} {nL : Nat} {ret : Option FieldType} {lev mc ms : Nat} {Pre : List sm_V → sm_W → Prop} {F : sm_F} {tb : List (Nat × List sm_O)} (z : Nat) (hret : (ret = none ∧ z = 0) ∨ (ret = some .int ∧ z = 1) ∨ (ret = some .boolean ∧ z = 2)) (hy : plainName y.cls = true) (hT : sm_SndT l y.cls y.name cc nL z lev tb) (hO : sm_Ok tb nL mc ms Pre F) : sm_Met l y cc nL ret lev mc ms Pre F := by
  intro b sb D cA as w hPre
  refine Met.ofW (cc := cc) (maxL := nL) (ret := ret) (ws' := sm_tbl) hy rfl ?_
  intro p e s m args below meth c s₁ B hml hP
  obtain ⟨hargs, hR, hK, hEx, hok⟩ := hP
  obtain ⟨hw, hO⟩ := hO as w hPre hok hR.2.2.2.1
  have hts0 : ∀ x ∈ (Cond.code y cc nL ret :: sm_tbl), x.before args s = true := atoms_spec (ws := Cond.code y cc nL ret :: sm_tbl) B.pre
  have hbH : b ≤ s.heap.size := by have := hR.2.1; omega
  have hC : sm_Cx p l e (headSpec (Cond.code y cc nL ret :: sm_tbl) (sm_rm lev mc ms)).room s m args below meth c (MQ below (sm_Qc b sb D cA (F as w)) args s mc ms (fun x => b ≤ x)) b sb D cA s.heap nL y.cls y.name cc z lev ((fun r w' => (r, w') = F as w), mc, ms) := by
    refine ⟨B.exec, B.bytes, hml, findClass_of_methodNamed B.named, fun x hx => hts0 x (List.mem_cons_of_mem _ hx), hK, hbH, rfl, rfl, Nat.le_refl _, Nat.le_refl _, (name_of_methodNamed B.named B.method).1, hEx, ?_, ?_⟩
    · intro pc H locs lsA w' k q n hd hz0 hz hF hn hk hq hR' hS'
      refine W.widen hk hq ?_
      have hr : meth.sig.returnType = ret := B.returns
      rcases hret with ⟨h, h2⟩ | ⟨h, h2⟩ | ⟨h, h2⟩
      · exact absurd h2 hz0
      · exact W.zret B.exec B.bytes (hr.trans h) rfl (fun t ht hW => ⟨by rw [← hF]; rfl, by rw [← hF, ht]; exact hR'.moved hW.alike, by rw [← hF]; intro v hv; cases hv; exact hn, hS'.F ht⟩) hS'.2.2 hd
      · exact W.zret B.exec B.bytes (hr.trans h) (by rcases hz h2 with rfl | rfl <;> rfl) (fun t ht hW => ⟨by rw [← hF]; rfl, by rw [← hF, ht]; exact hR'.moved hW.alike, by rw [← hF]; intro v hv; cases hv; exact hn, hS'.F ht⟩) hS'.2.2 hd
    · intro pc H locs lsA w' k q hd hz0 hF hk hq hR' hS'
      refine W.widen hk hq ?_
      have hr : meth.sig.returnType = ret := B.returns
      rcases hret with ⟨h, h2⟩ | ⟨h, h2⟩ | ⟨h, h2⟩
      · exact W.vret B.exec B.bytes (hr.trans h) (fun t ht hW => ⟨by rw [← hF]; rfl, by rw [← hF, ht]; exact hR'.moved hW.alike, (by rw [← hF]; intro v hv; cases hv), hS'.F ht⟩) hS'.2.2 hd
      · omega
      · omega
  have hZ := hO (sm_Wz p l e (headSpec (Cond.code y cc nL ret :: sm_tbl) (sm_rm lev mc ms)).room s m args below meth c (MQ below (sm_Qc b sb D cA (F as w)) args s mc ms (fun x => b ≤ x)) b sb D cA s.heap nL) (fun stop n t ls st w' k q h => sm_run_sound hT hC stop n t ls st w' k q h)
  subst hargs
  have hl := lv_entry (as.map (sm_ev b sb)) (n := nL) (by rw [sm_lg_len]; exact hw)
  rw [lg_entry_eq]
  generalize (lg_sl (as.map (sm_ev b sb)) ++ List.replicate (nL - (lg_sl (as.map (sm_ev b sb))).length) Slot.unset).toArray = lsA at hl ⊢
  refine hZ s.heap [] lsA hR va_S.rf (sm_entry hw hl) (fun v hv => ?_) (fun v hv => by cases hv)
  unfold sm_ent at hv
  rcases List.mem_append.mp hv with h | h
  · exact sm_ents_ok hok v h
  · rw [List.mem_replicate] at h
    cases h.2
end
