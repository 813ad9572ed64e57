section
-- ===== PART A: goes FIRST, ahead of the names: the tables' words, and 'selects' of the private methods out of them =====
/-- a private method of a class that the tables say can be made, by its rows of tables_1 -/
def lw_okq (q : MethodName × Nat) : Prop := (q.1.cls ≠ "java/lang/invoke/MethodHandle" ∧ q.1.cls ≠ "java/lang/invoke/VarHandle") ∧ Cond.instantiable q.1.cls q.2 ∈ tables_1 ∧ Cond.privateMethod q.1 ∈ tables_1 ∧ Cond.instanceMethod q.1 ∈ tables_1
theorem lw_p0 : lw_okq (⟨"SewingPiles$Room", "sleepers", "()I"⟩, 15) := ⟨⟨by decide +kernel, by decide +kernel⟩, List.mem_of_getElem? (i := 25) (by decide +kernel), List.mem_of_getElem? (i := 235) (by decide +kernel), List.mem_of_getElem? (i := 236) (by decide +kernel)⟩
theorem lw_p1 : lw_okq (⟨"SewingPiles$Room", "passMinute", "(Z)V"⟩, 15) := ⟨⟨by decide +kernel, by decide +kernel⟩, List.mem_of_getElem? (i := 25) (by decide +kernel), List.mem_of_getElem? (i := 239) (by decide +kernel), List.mem_of_getElem? (i := 240) (by decide +kernel)⟩
theorem lw_p2 : lw_okq (⟨"SewingPiles$Room", "act", "(IZ)I"⟩, 15) := ⟨⟨by decide +kernel, by decide +kernel⟩, List.mem_of_getElem? (i := 25) (by decide +kernel), List.mem_of_getElem? (i := 243) (by decide +kernel), List.mem_of_getElem? (i := 244) (by decide +kernel)⟩
theorem lw_p3 : lw_okq (⟨"SewingPiles$Room", "sew", "(I)V"⟩, 15) := ⟨⟨by decide +kernel, by decide +kernel⟩, List.mem_of_getElem? (i := 25) (by decide +kernel), List.mem_of_getElem? (i := 251) (by decide +kernel), List.mem_of_getElem? (i := 252) (by decide +kernel)⟩
theorem lw_p4 : lw_okq (⟨"SewingPiles$Room", "canBeTakenFrom", "(I)Z"⟩, 15) := ⟨⟨by decide +kernel, by decide +kernel⟩, List.mem_of_getElem? (i := 25) (by decide +kernel), List.mem_of_getElem? (i := 283) (by decide +kernel), List.mem_of_getElem? (i := 284) (by decide +kernel)⟩
theorem lw_p5 : lw_okq (⟨"SewingPiles$Room", "merit", "(II)I"⟩, 15) := ⟨⟨by decide +kernel, by decide +kernel⟩, List.mem_of_getElem? (i := 25) (by decide +kernel), List.mem_of_getElem? (i := 287) (by decide +kernel), List.mem_of_getElem? (i := 288) (by decide +kernel)⟩
theorem lw_p6 : lw_okq (⟨"SewingPiles$Room", "miss", "(I)V"⟩, 15) := ⟨⟨by decide +kernel, by decide +kernel⟩, List.mem_of_getElem? (i := 25) (by decide +kernel), List.mem_of_getElem? (i := 299) (by decide +kernel), List.mem_of_getElem? (i := 300) (by decide +kernel)⟩
theorem lw_p7 : lw_okq (⟨"SewingPiles$Room", "takeIntoHand", "(II)V"⟩, 15) := ⟨⟨by decide +kernel, by decide +kernel⟩, List.mem_of_getElem? (i := 25) (by decide +kernel), List.mem_of_getElem? (i := 303) (by decide +kernel), List.mem_of_getElem? (i := 304) (by decide +kernel)⟩
theorem lw_p8 : lw_okq (⟨"SewingPiles$Room", "wakeFirstSleeper", "()V"⟩, 15) := ⟨⟨by decide +kernel, by decide +kernel⟩, List.mem_of_getElem? (i := 25) (by decide +kernel), List.mem_of_getElem? (i := 319) (by decide +kernel), List.mem_of_getElem? (i := 320) (by decide +kernel)⟩
theorem lw_p9 : lw_okq (⟨"java/lang/Throwable", "fillInStackTrace", "(I)Ljava/lang/Throwable;"⟩, 6) := ⟨⟨by decide +kernel, by decide +kernel⟩, List.mem_of_getElem? (i := 388) (by decide +kernel), List.mem_of_getElem? (i := 386) (by decide +kernel), List.mem_of_getElem? (i := 387) (by decide +kernel)⟩
theorem lw_p10 : lw_okq (⟨"SewingPiles$Room", "fullHands", "()I"⟩, 15) := ⟨⟨by decide +kernel, by decide +kernel⟩, List.mem_of_getElem? (i := 25) (by decide +kernel), List.mem_of_getElem? (i := 422) (by decide +kernel), List.mem_of_getElem? (i := 423) (by decide +kernel)⟩
theorem lw_p11 : lw_okq (⟨"SewingPiles", "addSeamstresses", "(J)J"⟩, 6) := ⟨⟨by decide +kernel, by decide +kernel⟩, List.mem_of_getElem? (i := 17) (by decide +kernel), List.mem_of_getElem? (i := 453) (by decide +kernel), List.mem_of_getElem? (i := 454) (by decide +kernel)⟩
theorem lw_p12 : lw_okq (⟨"SewingPiles", "checkSeamstress", "(I)V"⟩, 6) := ⟨⟨by decide +kernel, by decide +kernel⟩, List.mem_of_getElem? (i := 17) (by decide +kernel), List.mem_of_getElem? (i := 461) (by decide +kernel), List.mem_of_getElem? (i := 462) (by decide +kernel)⟩
theorem lw_p13 : lw_okq (⟨"SewingPiles", "addShirts", "(J)J"⟩, 6) := ⟨⟨by decide +kernel, by decide +kernel⟩, List.mem_of_getElem? (i := 17) (by decide +kernel), List.mem_of_getElem? (i := 485) (by decide +kernel), List.mem_of_getElem? (i := 486) (by decide +kernel)⟩
theorem lw_p14 : lw_okq (⟨"SewingPiles", "addText", "(J)J"⟩, 6) := ⟨⟨by decide +kernel, by decide +kernel⟩, List.mem_of_getElem? (i := 17) (by decide +kernel), List.mem_of_getElem? (i := 535) (by decide +kernel), List.mem_of_getElem? (i := 536) (by decide +kernel)⟩
theorem lw_p15 : lw_okq (⟨"SewingPiles$History", "dropOldest", "()V"⟩, 2) := ⟨⟨by decide +kernel, by decide +kernel⟩, List.mem_of_getElem? (i := 124) (by decide +kernel), List.mem_of_getElem? (i := 572) (by decide +kernel), List.mem_of_getElem? (i := 573) (by decide +kernel)⟩
def lw_privs_1 : List (MethodName × Nat) := [(⟨"SewingPiles$Room", "sleepers", "()I"⟩, 15), (⟨"SewingPiles$Room", "passMinute", "(Z)V"⟩, 15), (⟨"SewingPiles$Room", "act", "(IZ)I"⟩, 15), (⟨"SewingPiles$Room", "sew", "(I)V"⟩, 15), (⟨"SewingPiles$Room", "canBeTakenFrom", "(I)Z"⟩, 15), (⟨"SewingPiles$Room", "merit", "(II)I"⟩, 15), (⟨"SewingPiles$Room", "miss", "(I)V"⟩, 15), (⟨"SewingPiles$Room", "takeIntoHand", "(II)V"⟩, 15), (⟨"SewingPiles$Room", "wakeFirstSleeper", "()V"⟩, 15), (⟨"java/lang/Throwable", "fillInStackTrace", "(I)Ljava/lang/Throwable;"⟩, 6), (⟨"SewingPiles$Room", "fullHands", "()I"⟩, 15), (⟨"SewingPiles", "addSeamstresses", "(J)J"⟩, 6), (⟨"SewingPiles", "checkSeamstress", "(I)V"⟩, 6), (⟨"SewingPiles", "addShirts", "(J)J"⟩, 6), (⟨"SewingPiles", "addText", "(J)J"⟩, 6), (⟨"SewingPiles$History", "dropOldest", "()V"⟩, 2)]
theorem lw_r1 : ∀ q ∈ lw_privs_1, lw_okq q := List.forall_mem_cons.mpr ⟨lw_p0, List.forall_mem_cons.mpr ⟨lw_p1, List.forall_mem_cons.mpr ⟨lw_p2, List.forall_mem_cons.mpr ⟨lw_p3, List.forall_mem_cons.mpr ⟨lw_p4, List.forall_mem_cons.mpr ⟨lw_p5, List.forall_mem_cons.mpr ⟨lw_p6, List.forall_mem_cons.mpr ⟨lw_p7, List.forall_mem_cons.mpr ⟨lw_p8, List.forall_mem_cons.mpr ⟨lw_p9, List.forall_mem_cons.mpr ⟨lw_p10, List.forall_mem_cons.mpr ⟨lw_p11, List.forall_mem_cons.mpr ⟨lw_p12, List.forall_mem_cons.mpr ⟨lw_p13, List.forall_mem_cons.mpr ⟨lw_p14, List.forall_mem_cons.mpr ⟨lw_p15, fun _ h => absurd h List.not_mem_nil⟩⟩⟩⟩⟩⟩⟩⟩⟩⟩⟩⟩⟩⟩⟩⟩
theorem lw_p16 : lw_okq (⟨"SewingPiles", "doPart", "(I)Z"⟩, 6) := ⟨⟨by decide +kernel, by decide +kernel⟩, List.mem_of_getElem? (i := 17) (by decide +kernel), List.mem_of_getElem? (i := 664) (by decide +kernel), List.mem_of_getElem? (i := 665) (by decide +kernel)⟩
theorem lw_p17 : lw_okq (⟨"SewingPilesModel", "lays", "(III)V"⟩, 15) := ⟨⟨by decide +kernel, by decide +kernel⟩, List.mem_of_getElem? (i := 724) (by decide +kernel), List.mem_of_getElem? (i := 730) (by decide +kernel), List.mem_of_getElem? (i := 731) (by decide +kernel)⟩
theorem lw_p18 : lw_okq (⟨"SewingPilesModel", "fails", "(I)I"⟩, 15) := ⟨⟨by decide +kernel, by decide +kernel⟩, List.mem_of_getElem? (i := 724) (by decide +kernel), List.mem_of_getElem? (i := 791) (by decide +kernel), List.mem_of_getElem? (i := 792) (by decide +kernel)⟩
theorem lw_p19 : lw_okq (⟨"SewingPilesModel", "saves", "()V"⟩, 15) := ⟨⟨by decide +kernel, by decide +kernel⟩, List.mem_of_getElem? (i := 724) (by decide +kernel), List.mem_of_getElem? (i := 795) (by decide +kernel), List.mem_of_getElem? (i := 796) (by decide +kernel)⟩
theorem lw_p20 : lw_okq (⟨"SewingPilesModel", "hires", "(I)I"⟩, 15) := ⟨⟨by decide +kernel, by decide +kernel⟩, List.mem_of_getElem? (i := 724) (by decide +kernel), List.mem_of_getElem? (i := 799) (by decide +kernel), List.mem_of_getElem? (i := 800) (by decide +kernel)⟩
theorem lw_p21 : lw_okq (⟨"SewingPilesModel", "isWho", "(I)Z"⟩, 15) := ⟨⟨by decide +kernel, by decide +kernel⟩, List.mem_of_getElem? (i := 724) (by decide +kernel), List.mem_of_getElem? (i := 807) (by decide +kernel), List.mem_of_getElem? (i := 808) (by decide +kernel)⟩
theorem lw_p22 : lw_okq (⟨"SewingPilesModel", "of", "(II)I"⟩, 15) := ⟨⟨by decide +kernel, by decide +kernel⟩, List.mem_of_getElem? (i := 724) (by decide +kernel), List.mem_of_getElem? (i := 811) (by decide +kernel), List.mem_of_getElem? (i := 812) (by decide +kernel)⟩
theorem lw_p23 : lw_okq (⟨"SewingPilesModel", "canLay", "(I)Z"⟩, 15) := ⟨⟨by decide +kernel, by decide +kernel⟩, List.mem_of_getElem? (i := 724) (by decide +kernel), List.mem_of_getElem? (i := 819) (by decide +kernel), List.mem_of_getElem? (i := 820) (by decide +kernel)⟩
theorem lw_p24 : lw_okq (⟨"SewingPilesModel", "comes", "(II)I"⟩, 15) := ⟨⟨by decide +kernel, by decide +kernel⟩, List.mem_of_getElem? (i := 724) (by decide +kernel), List.mem_of_getElem? (i := 823) (by decide +kernel), List.mem_of_getElem? (i := 824) (by decide +kernel)⟩
theorem lw_p25 : lw_okq (⟨"SewingPilesModel", "layShirt", "(III)V"⟩, 15) := ⟨⟨by decide +kernel, by decide +kernel⟩, List.mem_of_getElem? (i := 724) (by decide +kernel), List.mem_of_getElem? (i := 827) (by decide +kernel), List.mem_of_getElem? (i := 828) (by decide +kernel)⟩
theorem lw_p26 : lw_okq (⟨"SewingPilesModel", "grows", "(II)V"⟩, 15) := ⟨⟨by decide +kernel, by decide +kernel⟩, List.mem_of_getElem? (i := 724) (by decide +kernel), List.mem_of_getElem? (i := 831) (by decide +kernel), List.mem_of_getElem? (i := 832) (by decide +kernel)⟩
theorem lw_p27 : lw_okq (⟨"SewingPilesModel", "wakesLowest", "()V"⟩, 15) := ⟨⟨by decide +kernel, by decide +kernel⟩, List.mem_of_getElem? (i := 724) (by decide +kernel), List.mem_of_getElem? (i := 835) (by decide +kernel), List.mem_of_getElem? (i := 836) (by decide +kernel)⟩
theorem lw_p28 : lw_okq (⟨"SewingPilesModel", "wakes", "(I)I"⟩, 15) := ⟨⟨by decide +kernel, by decide +kernel⟩, List.mem_of_getElem? (i := 724) (by decide +kernel), List.mem_of_getElem? (i := 843) (by decide +kernel), List.mem_of_getElem? (i := 844) (by decide +kernel)⟩
theorem lw_p29 : lw_okq (⟨"SewingPilesModel", "sumOf", "(I)I"⟩, 15) := ⟨⟨by decide +kernel, by decide +kernel⟩, List.mem_of_getElem? (i := 724) (by decide +kernel), List.mem_of_getElem? (i := 851) (by decide +kernel), List.mem_of_getElem? (i := 852) (by decide +kernel)⟩
theorem lw_p30 : lw_okq (⟨"SewingPilesModel", "passesAll", "(I)V"⟩, 15) := ⟨⟨by decide +kernel, by decide +kernel⟩, List.mem_of_getElem? (i := 724) (by decide +kernel), List.mem_of_getElem? (i := 855) (by decide +kernel), List.mem_of_getElem? (i := 856) (by decide +kernel)⟩
theorem lw_p31 : lw_okq (⟨"SewingPilesModel", "passesOne", "()V"⟩, 15) := ⟨⟨by decide +kernel, by decide +kernel⟩, List.mem_of_getElem? (i := 724) (by decide +kernel), List.mem_of_getElem? (i := 859) (by decide +kernel), List.mem_of_getElem? (i := 860) (by decide +kernel)⟩
def lw_privs_2 : List (MethodName × Nat) := [(⟨"SewingPiles", "doPart", "(I)Z"⟩, 6), (⟨"SewingPilesModel", "lays", "(III)V"⟩, 15), (⟨"SewingPilesModel", "fails", "(I)I"⟩, 15), (⟨"SewingPilesModel", "saves", "()V"⟩, 15), (⟨"SewingPilesModel", "hires", "(I)I"⟩, 15), (⟨"SewingPilesModel", "isWho", "(I)Z"⟩, 15), (⟨"SewingPilesModel", "of", "(II)I"⟩, 15), (⟨"SewingPilesModel", "canLay", "(I)Z"⟩, 15), (⟨"SewingPilesModel", "comes", "(II)I"⟩, 15), (⟨"SewingPilesModel", "layShirt", "(III)V"⟩, 15), (⟨"SewingPilesModel", "grows", "(II)V"⟩, 15), (⟨"SewingPilesModel", "wakesLowest", "()V"⟩, 15), (⟨"SewingPilesModel", "wakes", "(I)I"⟩, 15), (⟨"SewingPilesModel", "sumOf", "(I)I"⟩, 15), (⟨"SewingPilesModel", "passesAll", "(I)V"⟩, 15), (⟨"SewingPilesModel", "passesOne", "()V"⟩, 15)]
theorem lw_r2 : ∀ q ∈ lw_privs_2, lw_okq q := List.forall_mem_cons.mpr ⟨lw_p16, List.forall_mem_cons.mpr ⟨lw_p17, List.forall_mem_cons.mpr ⟨lw_p18, List.forall_mem_cons.mpr ⟨lw_p19, List.forall_mem_cons.mpr ⟨lw_p20, List.forall_mem_cons.mpr ⟨lw_p21, List.forall_mem_cons.mpr ⟨lw_p22, List.forall_mem_cons.mpr ⟨lw_p23, List.forall_mem_cons.mpr ⟨lw_p24, List.forall_mem_cons.mpr ⟨lw_p25, List.forall_mem_cons.mpr ⟨lw_p26, List.forall_mem_cons.mpr ⟨lw_p27, List.forall_mem_cons.mpr ⟨lw_p28, List.forall_mem_cons.mpr ⟨lw_p29, List.forall_mem_cons.mpr ⟨lw_p30, List.forall_mem_cons.mpr ⟨lw_p31, fun _ h => absurd h List.not_mem_nil⟩⟩⟩⟩⟩⟩⟩⟩⟩⟩⟩⟩⟩⟩⟩⟩
theorem lw_p32 : lw_okq (⟨"SewingPilesModel", "acts", "(I)V"⟩, 15) := ⟨⟨by decide +kernel, by decide +kernel⟩, List.mem_of_getElem? (i := 724) (by decide +kernel), List.mem_of_getElem? (i := 863) (by decide +kernel), List.mem_of_getElem? (i := 864) (by decide +kernel)⟩
theorem lw_p33 : lw_okq (⟨"SewingPilesModel", "chosen", "(I)I"⟩, 15) := ⟨⟨by decide +kernel, by decide +kernel⟩, List.mem_of_getElem? (i := 724) (by decide +kernel), List.mem_of_getElem? (i := 867) (by decide +kernel), List.mem_of_getElem? (i := 868) (by decide +kernel)⟩
theorem lw_p34 : lw_okq (⟨"SewingPilesModel", "canTakeFrom", "(II)Z"⟩, 15) := ⟨⟨by decide +kernel, by decide +kernel⟩, List.mem_of_getElem? (i := 724) (by decide +kernel), List.mem_of_getElem? (i := 871) (by decide +kernel), List.mem_of_getElem? (i := 872) (by decide +kernel)⟩
theorem lw_p35 : lw_okq (⟨"SewingPilesModel", "isAhead", "(III)Z"⟩, 15) := ⟨⟨by decide +kernel, by decide +kernel⟩, List.mem_of_getElem? (i := 724) (by decide +kernel), List.mem_of_getElem? (i := 875) (by decide +kernel), List.mem_of_getElem? (i := 876) (by decide +kernel)⟩
theorem lw_p36 : lw_okq (⟨"SewingPilesModel", "onPile", "(II)I"⟩, 15) := ⟨⟨by decide +kernel, by decide +kernel⟩, List.mem_of_getElem? (i := 724) (by decide +kernel), List.mem_of_getElem? (i := 879) (by decide +kernel), List.mem_of_getElem? (i := 880) (by decide +kernel)⟩
theorem lw_p37 : lw_okq (⟨"SewingPilesModel", "ofShirt", "(II)I"⟩, 15) := ⟨⟨by decide +kernel, by decide +kernel⟩, List.mem_of_getElem? (i := 724) (by decide +kernel), List.mem_of_getElem? (i := 883) (by decide +kernel), List.mem_of_getElem? (i := 884) (by decide +kernel)⟩
theorem lw_p38 : lw_okq (⟨"SewingPilesModel", "sews", "(I)V"⟩, 15) := ⟨⟨by decide +kernel, by decide +kernel⟩, List.mem_of_getElem? (i := 724) (by decide +kernel), List.mem_of_getElem? (i := 887) (by decide +kernel), List.mem_of_getElem? (i := 888) (by decide +kernel)⟩
theorem lw_p39 : lw_okq (⟨"SewingPilesModel", "takesNear", "(I)V"⟩, 15) := ⟨⟨by decide +kernel, by decide +kernel⟩, List.mem_of_getElem? (i := 724) (by decide +kernel), List.mem_of_getElem? (i := 891) (by decide +kernel), List.mem_of_getElem? (i := 892) (by decide +kernel)⟩
theorem lw_p40 : lw_okq (⟨"SewingPilesModel", "takes", "(II)V"⟩, 15) := ⟨⟨by decide +kernel, by decide +kernel⟩, List.mem_of_getElem? (i := 724) (by decide +kernel), List.mem_of_getElem? (i := 895) (by decide +kernel), List.mem_of_getElem? (i := 896) (by decide +kernel)⟩
theorem lw_p41 : lw_okq (⟨"SewingPilesModel", "takesFar", "(II)V"⟩, 15) := ⟨⟨by decide +kernel, by decide +kernel⟩, List.mem_of_getElem? (i := 724) (by decide +kernel), List.mem_of_getElem? (i := 899) (by decide +kernel), List.mem_of_getElem? (i := 900) (by decide +kernel)⟩
theorem lw_p42 : lw_okq (⟨"SewingPilesModel", "misses", "(I)V"⟩, 15) := ⟨⟨by decide +kernel, by decide +kernel⟩, List.mem_of_getElem? (i := 724) (by decide +kernel), List.mem_of_getElem? (i := 903) (by decide +kernel), List.mem_of_getElem? (i := 904) (by decide +kernel)⟩
theorem lw_p43 : lw_okq (⟨"SewingPilesModel", "readsAll", "()V"⟩, 15) := ⟨⟨by decide +kernel, by decide +kernel⟩, List.mem_of_getElem? (i := 724) (by decide +kernel), List.mem_of_getElem? (i := 923) (by decide +kernel), List.mem_of_getElem? (i := 924) (by decide +kernel)⟩
theorem lw_p44 : lw_okq (⟨"SewingPilesModel", "readsOrder", "()V"⟩, 15) := ⟨⟨by decide +kernel, by decide +kernel⟩, List.mem_of_getElem? (i := 724) (by decide +kernel), List.mem_of_getElem? (i := 927) (by decide +kernel), List.mem_of_getElem? (i := 928) (by decide +kernel)⟩
theorem lw_p45 : lw_okq (⟨"SewingPilesModel", "sign", "()I"⟩, 15) := ⟨⟨by decide +kernel, by decide +kernel⟩, List.mem_of_getElem? (i := 724) (by decide +kernel), List.mem_of_getElem? (i := 931) (by decide +kernel), List.mem_of_getElem? (i := 932) (by decide +kernel)⟩
theorem lw_p46 : lw_okq (⟨"SewingPilesModel", "digit", "(II)I"⟩, 15) := ⟨⟨by decide +kernel, by decide +kernel⟩, List.mem_of_getElem? (i := 724) (by decide +kernel), List.mem_of_getElem? (i := 935) (by decide +kernel), List.mem_of_getElem? (i := 936) (by decide +kernel)⟩
theorem lw_p47 : lw_okq (⟨"SewingPilesModel", "number", "()I"⟩, 15) := ⟨⟨by decide +kernel, by decide +kernel⟩, List.mem_of_getElem? (i := 724) (by decide +kernel), List.mem_of_getElem? (i := 939) (by decide +kernel), List.mem_of_getElem? (i := 940) (by decide +kernel)⟩
def lw_privs_3 : List (MethodName × Nat) := [(⟨"SewingPilesModel", "acts", "(I)V"⟩, 15), (⟨"SewingPilesModel", "chosen", "(I)I"⟩, 15), (⟨"SewingPilesModel", "canTakeFrom", "(II)Z"⟩, 15), (⟨"SewingPilesModel", "isAhead", "(III)Z"⟩, 15), (⟨"SewingPilesModel", "onPile", "(II)I"⟩, 15), (⟨"SewingPilesModel", "ofShirt", "(II)I"⟩, 15), (⟨"SewingPilesModel", "sews", "(I)V"⟩, 15), (⟨"SewingPilesModel", "takesNear", "(I)V"⟩, 15), (⟨"SewingPilesModel", "takes", "(II)V"⟩, 15), (⟨"SewingPilesModel", "takesFar", "(II)V"⟩, 15), (⟨"SewingPilesModel", "misses", "(I)V"⟩, 15), (⟨"SewingPilesModel", "readsAll", "()V"⟩, 15), (⟨"SewingPilesModel", "readsOrder", "()V"⟩, 15), (⟨"SewingPilesModel", "sign", "()I"⟩, 15), (⟨"SewingPilesModel", "digit", "(II)I"⟩, 15), (⟨"SewingPilesModel", "number", "()I"⟩, 15)]
theorem lw_r3 : ∀ q ∈ lw_privs_3, lw_okq q := List.forall_mem_cons.mpr ⟨lw_p32, List.forall_mem_cons.mpr ⟨lw_p33, List.forall_mem_cons.mpr ⟨lw_p34, List.forall_mem_cons.mpr ⟨lw_p35, List.forall_mem_cons.mpr ⟨lw_p36, List.forall_mem_cons.mpr ⟨lw_p37, List.forall_mem_cons.mpr ⟨lw_p38, List.forall_mem_cons.mpr ⟨lw_p39, List.forall_mem_cons.mpr ⟨lw_p40, List.forall_mem_cons.mpr ⟨lw_p41, List.forall_mem_cons.mpr ⟨lw_p42, List.forall_mem_cons.mpr ⟨lw_p43, List.forall_mem_cons.mpr ⟨lw_p44, List.forall_mem_cons.mpr ⟨lw_p45, List.forall_mem_cons.mpr ⟨lw_p46, List.forall_mem_cons.mpr ⟨lw_p47, fun _ h => absurd h List.not_mem_nil⟩⟩⟩⟩⟩⟩⟩⟩⟩⟩⟩⟩⟩⟩⟩⟩
theorem lw_p48 : lw_okq (⟨"SewingPilesModel", "obeys", "(I)Z"⟩, 15) := ⟨⟨by decide +kernel, by decide +kernel⟩, List.mem_of_getElem? (i := 724) (by decide +kernel), List.mem_of_getElem? (i := 947) (by decide +kernel), List.mem_of_getElem? (i := 948) (by decide +kernel)⟩
theorem lw_p49 : lw_okq (⟨"SewingPilesModel", "tellsWho", "(II)I"⟩, 15) := ⟨⟨by decide +kernel, by decide +kernel⟩, List.mem_of_getElem? (i := 724) (by decide +kernel), List.mem_of_getElem? (i := 967) (by decide +kernel), List.mem_of_getElem? (i := 968) (by decide +kernel)⟩
theorem lw_p50 : lw_okq (⟨"SewingPilesModel", "load", "(I)I"⟩, 15) := ⟨⟨by decide +kernel, by decide +kernel⟩, List.mem_of_getElem? (i := 724) (by decide +kernel), List.mem_of_getElem? (i := 971) (by decide +kernel), List.mem_of_getElem? (i := 972) (by decide +kernel)⟩
theorem lw_p51 : lw_okq (⟨"SewingPilesModel", "tellsCount", "(I)I"⟩, 15) := ⟨⟨by decide +kernel, by decide +kernel⟩, List.mem_of_getElem? (i := 724) (by decide +kernel), List.mem_of_getElem? (i := 987) (by decide +kernel), List.mem_of_getElem? (i := 988) (by decide +kernel)⟩
theorem lw_p52 : lw_okq (⟨"SewingPilesModel", "shirtsThat", "(I)I"⟩, 15) := ⟨⟨by decide +kernel, by decide +kernel⟩, List.mem_of_getElem? (i := 724) (by decide +kernel), List.mem_of_getElem? (i := 991) (by decide +kernel), List.mem_of_getElem? (i := 992) (by decide +kernel)⟩
theorem lw_p53 : lw_okq (⟨"SewingPilesModel", "workLeft", "()I"⟩, 15) := ⟨⟨by decide +kernel, by decide +kernel⟩, List.mem_of_getElem? (i := 724) (by decide +kernel), List.mem_of_getElem? (i := 995) (by decide +kernel), List.mem_of_getElem? (i := 996) (by decide +kernel)⟩
theorem lw_p54 : lw_okq (⟨"SewingPilesModel", "done", "(ZI)I"⟩, 15) := ⟨⟨by decide +kernel, by decide +kernel⟩, List.mem_of_getElem? (i := 724) (by decide +kernel), List.mem_of_getElem? (i := 1011) (by decide +kernel), List.mem_of_getElem? (i := 1012) (by decide +kernel)⟩
theorem lw_p55 : lw_okq (⟨"SewingPilesModel", "putAside", "()V"⟩, 15) := ⟨⟨by decide +kernel, by decide +kernel⟩, List.mem_of_getElem? (i := 724) (by decide +kernel), List.mem_of_getElem? (i := 1015) (by decide +kernel), List.mem_of_getElem? (i := 1016) (by decide +kernel)⟩
theorem lw_p56 : lw_okq (⟨"SewingPilesModel", "until", "()I"⟩, 15) := ⟨⟨by decide +kernel, by decide +kernel⟩, List.mem_of_getElem? (i := 724) (by decide +kernel), List.mem_of_getElem? (i := 1019) (by decide +kernel), List.mem_of_getElem? (i := 1020) (by decide +kernel)⟩
theorem lw_p57 : lw_okq (⟨"SewingPilesModel", "takeBack", "()V"⟩, 15) := ⟨⟨by decide +kernel, by decide +kernel⟩, List.mem_of_getElem? (i := 724) (by decide +kernel), List.mem_of_getElem? (i := 1023) (by decide +kernel), List.mem_of_getElem? (i := 1024) (by decide +kernel)⟩
theorem lw_p58 : lw_okq (⟨"SewingPilesModel", "would", "(II)I"⟩, 15) := ⟨⟨by decide +kernel, by decide +kernel⟩, List.mem_of_getElem? (i := 724) (by decide +kernel), List.mem_of_getElem? (i := 1039) (by decide +kernel), List.mem_of_getElem? (i := 1040) (by decide +kernel)⟩
theorem lw_p59 : lw_okq (⟨"SewingPilesModel", "share", "()D"⟩, 15) := ⟨⟨by decide +kernel, by decide +kernel⟩, List.mem_of_getElem? (i := 724) (by decide +kernel), List.mem_of_getElem? (i := 1047) (by decide +kernel), List.mem_of_getElem? (i := 1048) (by decide +kernel)⟩
theorem lw_p60 : lw_okq (⟨"SewingPilesModel", "even", "()F"⟩, 15) := ⟨⟨by decide +kernel, by decide +kernel⟩, List.mem_of_getElem? (i := 724) (by decide +kernel), List.mem_of_getElem? (i := 1055) (by decide +kernel), List.mem_of_getElem? (i := 1056) (by decide +kernel)⟩
theorem lw_p61 : lw_okq (⟨"SewingPilesModel", "hashes", "(J)V"⟩, 15) := ⟨⟨by decide +kernel, by decide +kernel⟩, List.mem_of_getElem? (i := 724) (by decide +kernel), List.mem_of_getElem? (i := 1064) (by decide +kernel), List.mem_of_getElem? (i := 1065) (by decide +kernel)⟩
theorem lw_p62 : lw_okq (⟨"SewingPilesModel", "hashesWho", "(I)V"⟩, 15) := ⟨⟨by decide +kernel, by decide +kernel⟩, List.mem_of_getElem? (i := 724) (by decide +kernel), List.mem_of_getElem? (i := 1069) (by decide +kernel), List.mem_of_getElem? (i := 1070) (by decide +kernel)⟩
def lw_privs_4 : List (MethodName × Nat) := [(⟨"SewingPilesModel", "obeys", "(I)Z"⟩, 15), (⟨"SewingPilesModel", "tellsWho", "(II)I"⟩, 15), (⟨"SewingPilesModel", "load", "(I)I"⟩, 15), (⟨"SewingPilesModel", "tellsCount", "(I)I"⟩, 15), (⟨"SewingPilesModel", "shirtsThat", "(I)I"⟩, 15), (⟨"SewingPilesModel", "workLeft", "()I"⟩, 15), (⟨"SewingPilesModel", "done", "(ZI)I"⟩, 15), (⟨"SewingPilesModel", "putAside", "()V"⟩, 15), (⟨"SewingPilesModel", "until", "()I"⟩, 15), (⟨"SewingPilesModel", "takeBack", "()V"⟩, 15), (⟨"SewingPilesModel", "would", "(II)I"⟩, 15), (⟨"SewingPilesModel", "share", "()D"⟩, 15), (⟨"SewingPilesModel", "even", "()F"⟩, 15), (⟨"SewingPilesModel", "hashes", "(J)V"⟩, 15), (⟨"SewingPilesModel", "hashesWho", "(I)V"⟩, 15)]
theorem lw_r4 : ∀ q ∈ lw_privs_4, lw_okq q := List.forall_mem_cons.mpr ⟨lw_p48, List.forall_mem_cons.mpr ⟨lw_p49, List.forall_mem_cons.mpr ⟨lw_p50, List.forall_mem_cons.mpr ⟨lw_p51, List.forall_mem_cons.mpr ⟨lw_p52, List.forall_mem_cons.mpr ⟨lw_p53, List.forall_mem_cons.mpr ⟨lw_p54, List.forall_mem_cons.mpr ⟨lw_p55, List.forall_mem_cons.mpr ⟨lw_p56, List.forall_mem_cons.mpr ⟨lw_p57, List.forall_mem_cons.mpr ⟨lw_p58, List.forall_mem_cons.mpr ⟨lw_p59, List.forall_mem_cons.mpr ⟨lw_p60, List.forall_mem_cons.mpr ⟨lw_p61, List.forall_mem_cons.mpr ⟨lw_p62, fun _ h => absurd h List.not_mem_nil⟩⟩⟩⟩⟩⟩⟩⟩⟩⟩⟩⟩⟩⟩⟩
def lw_privs : List (MethodName × Nat) := lw_privs_1 ++ (lw_privs_2 ++ (lw_privs_3 ++ (lw_privs_4)))
def lw_tbl : List Cond := k2_sels lw_privs ++ tables_1
theorem lw_privs_ok : ∀ q ∈ lw_privs, lw_okq q := by
  show ∀ q ∈ lw_privs_1 ++ (lw_privs_2 ++ (lw_privs_3 ++ (lw_privs_4))), lw_okq q
  exact List.forall_mem_append.mpr ⟨lw_r1, List.forall_mem_append.mpr ⟨lw_r2, List.forall_mem_append.mpr ⟨lw_r3, lw_r4⟩⟩⟩
/-- the streams that the claim lets the run draw from -/
abbrev lw_cs : List Choice := [Jvm.Choice.named "NaN.bits"]
theorem lw_bits : nanBits ∈ lw_cs := by first | decide | exact List.mem_cons_self | simp [lw_cs, nanBits]
end
section
/-! ===== BEGIN words of one list among another's, by their places ===== -/
theorem goodIn_r {big : List Cond} (ws : List Cond) (ps : List Nat) (hp : ws = ps.filterMap (fun i => big[i]?)) (h : ws.all goodWord = true) : GoodIn big ws := by
  intro w hw
  have h1 := List.all_eq_true.mp h w hw
  rw [hp] at hw
  obtain ⟨i, -, hi⟩ := List.mem_filterMap.mp hw
  have hm : w ∈ big := by first | exact List.mem_of_getElem? hi | exact List.getElem?_mem hi
  exact ⟨hm, good_of_word h1⟩
theorem goodIn_app {big a b : List Cond} (ha : GoodIn big a) (hb : GoodIn big b) : GoodIn big (a ++ b) := fun w h => (List.mem_append.mp h).elim (ha w) (hb w)
theorem goodIn_ca {big a b : List Cond} {c : Cond} (ha : GoodIn big (c :: a)) (hb : GoodIn big b) : GoodIn big (c :: (a ++ b)) := fun w h => (List.mem_cons.mp h).elim (fun e => ha w (List.mem_cons.mpr (Or.inl e))) (fun h => (List.mem_append.mp h).elim (fun h => ha w (List.mem_cons.mpr (Or.inr h))) (hb w))
theorem goodIn_sub {big ws : List Cond} (hm : ∀ w ∈ ws, w ∈ big) (h : ws.all goodWord = true) : GoodIn big ws := fun w hw => ⟨hm w hw, good_of_word (List.all_eq_true.mp h w hw)⟩
/-! ===== END ===== -/

/-! ===== BEGIN new T[n][m]: the outer array a place, the inner ones among the pooled ===== -/
/-- f, but v at every address of l -/
def vr_up {α : Type} (f : Nat → α) (l : List Nat) (v : α) : Nat → α := fun a => if a ∈ l then v else f a
theorem vr_up_in {α : Type} {f : Nat → α} {l : List Nat} {v : α} {a : Nat} (h : a ∈ l) : vr_up f l v a = v := if_pos h
theorem vr_up_ne {α : Type} {f : Nat → α} {l : List Nat} {v : α} {a : Nat} (h : a ∉ l) : vr_up f l v a = f a := if_neg h
theorem vr_rows {L l : List Nat} {f : Nat → va_E} {e : va_E} (h : ∀ a, a ∈ l → a ∉ L) : va_pl L f ++ l.map (fun a => (a, e)) = va_pl (L ++ l) (vr_up f l e) := by
  unfold va_pl
  rw [List.map_append]
  congr 1
  · apply List.map_congr_left
    intro a ha
    rw [vr_up_ne (fun q => h a q ha)]
  · apply List.map_congr_left
    intro a ha
    rw [vr_up_in ha]
theorem vr_lay {X rows : va_W} {x : Nat × va_E} {pl : va_W} {D : va_G} {cl : List vw_C} {H : Heap} (hP : va_P D cl (((X ++ pl) ++ [x]) ++ rows) H) : va_P D cl ((X ++ [x]) ++ (pl ++ rows)) H := by
  rw [List.append_assoc (X ++ pl)] at hP
  have h := va_P.swap hP
  rw [← List.append_assoc X] at h
  have h2 := va_P.swap h
  rw [List.append_assoc (X ++ [x])] at h2
  exact h2
theorem vr_layD {X rows : va_W} {x : Nat × va_E} {pl : va_W} {A : Nat → Prop} (hD : va_D A (((X ++ pl) ++ [x]) ++ rows)) : va_D A ((X ++ [x]) ++ (pl ++ rows)) := by
  rw [List.append_assoc (X ++ pl)] at hD
  have h := va_D.swap hD
  rw [← List.append_assoc X] at h
  have h2 := va_D.swap h
  rw [List.append_assoc (X ++ [x])] at h2
  exact h2
theorem vr_outer (c : ClassId) (N h0 : Nat) : ∀ i : Nat, Jvm.Free.Multi.outerC c N h0 i = arrV c N (fun j => va_rf (if j < i then some (h0 + 1 + j) else none))
  | 0 => by
    show ({ cls := c, slots := Array.replicate N .null, vm := .none } : Cell) = _
    rw [arrV_new]
    refine congrArg (arrV c N) (funext fun j => ?_)
    simp [va_rf]
  | i + 1 => by
    show (Jvm.Free.Multi.outerC c N h0 i).setSlot i (.ref (h0 + 1 + i)) = _
    rw [vr_outer c N h0 i, arrV_store]
    refine congrArg (arrV c N) (funext fun j => ?_)
    by_cases e : j = i
    · subst e
      simp [updV, va_rf]
    · by_cases h : j < i
      · simp [updV, e, h, Nat.lt_succ_of_lt h]
      · simp [updV, e, h, show ¬ j < i + 1 by omega]
section VGM
variable {p : Program} {l : Launch} {e : Env} {R : Room} {s : State} {m : MethodId} {args : Array Value} {below : List Frame} {meth : Method} {c : Code} {H : Heap} {locs : List Loc} {cells slots : Nat} {Q : State → Prop}
variable {cc : ByteArray} {pc : Nat} {ls : Array Slot} {rest : List Value} {D : va_G} {cl : List vw_C} {A : Nat → Prop} {a : Nat} {tys : List (ClassId × FieldType)} {ws : va_W} {H0 : Heap}
end VGM
/-! ===== END ===== -/

/-! ===== BEGIN exceptions that leave a method, and their catching by the caller (launches without stack traces) ===== -/
section VXA
/-! The laws vx_back, vx_callV, vx_callS, vx_callSW, vx_throw0, vx_throwS follow proofs of the library, with one case more: JvmDerived/Free/Laws.lean (Back.of_free), Shelf42/LK1.lean (callV, callS), Shelf/KitTraced.lean (throwNew0V, throwNewS). -/
/-- where a method has thrown q: the class by its name, the cell, what was written, the world -/
def vx_T (XC : String → State → State → Prop) (st : State) (q : Addr) (t : State) (mc ms : Nat) (free : Addr → Prop) : Prop :=
  ∃ (E : String) (ce : Cell) (L : List Loc), XC E st t ∧ t.heap[q]? = some ce ∧ ce.vm = .none ∧ st.vm.findClass E = some ce.cls ∧ st.WarmedH t.vm ∧ st.sameButNew ({ t with vm := st.vm } : State) L mc ms ∧ ∀ z ∈ L, free z.base
def vx_Q (Qc : Array Value → State → Outcome → State → Prop) (XC : String → State → State → Prop) (mc ms : Nat) (free : Addr → Prop) : Array Value → State → Outcome → State → Prop := fun a st o t =>
  (Qc a st o t ∧ ∃ L, FrameEnd st o t L mc ms ∧ ∀ q ∈ L, free q.base) ∨ ∃ q, o = .threw q ∧ vx_T XC st q t mc ms free
/-- a callee that returns or throws -/
def vx_Met (l : Launch) (y : MethodName) (ws : List Cond) (rm : Room) (Pc : Array Value → State → Prop) (Qc : Array Value → State → Outcome → State → Prop) (XC : String → State → State → Prop) (mc ms : Nat) (free : Addr → Prop) : Prop :=
  MetFree l y (headSpec ws rm) Pc (fun _ _ _ _ _ => True) (vx_Q Qc XC mc ms free)
def vx_Post (XC : String → State → State → Prop) (mc ms : Nat) (free : Addr → Prop) : Pt → Array Value → Addr → Pt → Prop := fun A a q B =>
  ∃ (g : JFrame) (mk : MethodId) (t : State) (L : List Loc) (E : String) (ce : Cell), B.U.heap = t.heap ∧ B.U.vm = t.vm ∧ XC E (A.U.calling g mk a) t ∧ t.heap[q]? = some ce ∧ ce.vm = .none ∧ A.U.vm.findClass E = some ce.cls ∧ B.locs = A.locs ++ L ∧ (∀ z ∈ L, free z.base) ∧ B.cells = A.cells + mc ∧ B.slots = A.slots + ms
def vx_Back (l : Launch) (R : Room) (p : Program) (e : Env) (below : List Frame) (s : State) (sargs : Array Value) (y : MethodName) (len W9 : Nat)
    (Pre : Pt → Array Value → Prop) (Post : Pt → Array Value → Option Value → Pt → Prop) (PostX : Pt → Array Value → Addr → Pt → Prop) : Prop :=
  ∀ (m : MethodId) (meth : Method) (c : Code) (A : Pt) (g : JFrame) (ig : Instr) (mk : MethodId) (a : Array Value),
    Stand p l e R s m sargs below meth c A.U A.locs A.cells A.slots → g.method = m → g.locals.size = c.maxLocals → decode c.code g.pc = .ok (ig, len) →
    2 * g.monitorRoom + (g.stack.map fun v => v.category).sum ≤ W9 → A.U.methodNamed? y = some mk → Pre A a →
    (∃ (v : Option Value) (B : Pt), Stand p l e R s m sargs below meth c B.U B.locs B.cells B.slots ∧ Post A a v B ∧
      Steps p.tables e below (doInvoke e (A.U.setTop g) [] mk a).1 (B.U.setTop { g with pc := g.pc + len, stack := v.toList ++ g.stack })) ∨
    (∃ (q : Addr) (B : Pt), Stand p l e R s m sargs below meth c B.U B.locs B.cells B.slots ∧ PostX A a q B ∧
      Steps p.tables e below (doInvoke e (A.U.setTop g) [] mk a).1 ((B.U.setTop g).pushFrame (.throwing q)))
section Payer
variable {l : Launch} {R : Room} {p : Program} {e : Env} {below : List Frame} {s : State} {sargs : Array Value} {y : MethodName} {len W9 : Nat}
theorem vx_back {ws : List Cond} {rm : Room} {Pc : Array Value → State → Prop} {Qc : Array Value → State → Outcome → State → Prop} {XC : String → State → State → Prop} {mc ms : Nat} {free : Addr → Prop} {bytes : ByteArray} {maxL : Nat} {ret : Option FieldType}
    (hM : vx_Met l y ws rm Pc Qc XC mc ms free) (hblind : FrameBlind Pc) (hrc : rm.cells = mc) (hrs : rm.slots = ms)
    (hframes : rm.frames + 1 ≤ R.frames) (hlocals : W9 + (maxL + 11) + rm.locals ≤ R.locals)
    (hws : ∀ w ∈ ws, ∀ a' U, s.WarmedH U.vm → w.before a' U = true) (hcode : Cond.code y bytes maxL ret ∈ ws) (hinit : ∀ a' U, s.WarmedH U.vm → (Cond.initialized y.cls).before a' U = true) :
    vx_Back l R p e below s sargs y len W9 (PreOf R mc ms Pc) (PostOf Qc mc ms free) (vx_Post XC mc ms free) := by
  intro m meth c A g ig mk a X hg hsize hdg hW hn hp
  have h1 : (headSpec ws rm).pre.before a A.U = true := atoms_intro fun w hw => hws w hw _ _ X.warmed
  have h2 : (Cond.code y bytes maxL ret).before a A.U = true := hws _ hcode _ _ X.warmed
  have h3 : (Cond.initialized y.cls).before a A.U = true := hinit _ _ X.warmed
  have h4 : A.cells + (headSpec ws rm).room.cells ≤ R.cells := by rw [show (headSpec ws rm).room.cells = mc from hrc]; exact hp.1
  have h5 : A.slots + (headSpec ws rm).room.slots ≤ R.slots := by rw [show (headSpec ws rm).room.slots = ms from hrs]; exact hp.2.1
  have hPc : Pc a (A.U.calling g mk a) := hblind _ _ _ _ hp.2.2
  obtain ⟨U, Ls, c0, s0⟩ := A
  dsimp only [Pt.U, Pt.locs, Pt.cells, Pt.slots] at h1 h2 h3 h4 h5 X hn hPc ⊢
  obtain ⟨methY, cY, hmY, hcY, -, hlY, -, -, -, -⟩ := Cond.code_spec hn h2
  obtain ⟨kY, hkY, -⟩ := className_of_methodNamed hn
  have hinitY : kY.init = .initialized := Cond.initialized_spec (findClass_of_methodNamed hn) hkY h3
  have h : At U g.method c below := by rw [hg]; exact X.here
  have hlocals9 : W9 + (maxL + 11) + (headSpec ws rm).room.locals ≤ R.locals := hlocals
  have happ : (headSpec ws rm).appliesLoose y e.platform (U.calling g mk a) = true :=
    Spec.appliesLoose_calling (g := g) h hdg hn hkY hinitY
      (X.room_calling (g := g) (R' := (headSpec ws rm).room) hsize hmY hcY hframes (by rw [hlY]; omega) h4 h5) h1
  obtain ⟨mid, hmid⟩ := h.above
  have hfr : (U.setTop g).frames = (.java g :: mid) ++ below := by rw [State.frames_setTop' g h.top, hmid]; rfl
  obtain ⟨o, s₂, hsteps, -, hend, hq⟩ := Steps.callFree hM p X.admits X.cas X.clock (acts := []) hfr happ hPc trivial
  have hq' : vx_Q Qc XC mc ms free a (U.calling g mk a) o s₂ := hq
  rw [State.frames_setTop' g h.top] at hend
  obtain ⟨g₀, hg0⟩ := Option.isSome_iff_exists.mp h.top
  obtain ⟨r, hr⟩ := State.topJava?_eq_some.mp hg0
  have hr' : (({ U with heap := s₂.heap, slotsUsed := s₂.slotsUsed } : State).setVm s₂.vm).frames = .java g₀ :: r := hr
  rcases hq' with ⟨hqc, L, hfe, hL⟩ | ⟨q, rfl, E, ce, L, hx, hce, hcv, hcl, hW₂, hsm, hL⟩
  · obtain ⟨⟨v, rfl⟩, hW₂, e2, q2, q3, q4, q5, q6⟩ := id hfe
    have e3 : s₂ = ({ (U.calling g mk a).setFrames s₂.frames with heap := s₂.heap, slotsUsed := s₂.slotsUsed } : State).setVm s₂.vm := by
      have : s₂ = ({ s₂ with vm := (U.calling g mk a).vm } : State).setVm s₂.vm := rfl
      rw [e2] at this
      exact this
    obtain ⟨c₂, i₂, len₂, hc₂, hd₂, hf₂⟩ := hend
    have hW' : U.WarmedH s₂.vm := hW₂
    have hcc : c₂ = c := by
      have h1 : s₂.code? g.method = U.code? g.method := by
        rw [State.code?_eq, State.code?_eq, hW'.alike.method?]
      exact Option.some.inj (hc₂.symm.trans (h1.trans h.code))
    subst hcc
    have hlen : len₂ = len := by rw [hdg] at hd₂; cases hd₂; rfl
    subst hlen
    have hs₂ : s₂ = (({ U with heap := s₂.heap, slotsUsed := s₂.slotsUsed } : State).setVm s₂.vm).setTop { g with pc := g.pc + len₂, stack := v.toList ++ g.stack } := by
      refine e3.trans ?_
      rw [hf₂, State.calling_eq h.top, State.setFrames_setFrames, State.setTop_of_frames _ hr', hr]
      rfl
    have hsame : U.sameButNew ({ U with heap := s₂.heap, slotsUsed := s₂.slotsUsed } : State) L mc ms := by
      refine ⟨?_, q2, q3, q4, q5, q6⟩
      obtain ⟨t, ht, -⟩ := State.frames_cons hr
      show ({ U with heap := s₂.heap, slotsUsed := s₂.slotsUsed } : State) = { U.setFrames U.frames with heap := s₂.heap, slotsUsed := s₂.slotsUsed }
      rw [State.setFrames_self ht]
    subst hg
    refine Or.inl ⟨v, ⟨(({ U with heap := s₂.heap, slotsUsed := s₂.slotsUsed } : State).setVm s₂.vm), Ls ++ L, c0 + mc, s0 + ms⟩,
      ⟨X.admits, X.cas, X.clock, X.frames, X.room, X.hears, X.method, X.code, (X.here.setHeapUsed s₂.heap s₂.slotsUsed).setVm hW'.alike, X.tail, State.WarmedH.trans X.warmed hW', X.limits, X.bytes, X.same.trans (hsame.setVm s.vm)⟩,
      ⟨g, mk, s₂, L, rfl, rfl, hqc, rfl, hL, rfl, rfl⟩, ?_⟩
    show Steps p.tables e below _ ((({ U with heap := s₂.heap, slotsUsed := s₂.slotsUsed } : State).setVm s₂.vm).setTop { g with pc := g.pc + len₂, stack := v.toList ++ g.stack })
    rw [← hs₂]
    exact hsteps
  · obtain ⟨e2, q2, q3, q4, q5, q6⟩ := id hsm
    have e3 : s₂ = ({ (U.calling g mk a).setFrames s₂.frames with heap := s₂.heap, slotsUsed := s₂.slotsUsed } : State).setVm s₂.vm := by
      have : s₂ = ({ s₂ with vm := (U.calling g mk a).vm } : State).setVm s₂.vm := rfl
      rw [e2] at this
      exact this
    have hf₂ : s₂.frames = .throwing q :: .java g :: U.frames.tail := hend
    have hW' : U.WarmedH s₂.vm := hW₂
    have hs₂ : s₂ = ((({ U with heap := s₂.heap, slotsUsed := s₂.slotsUsed } : State).setVm s₂.vm).setTop g).pushFrame (.throwing q) := by
      refine e3.trans ?_
      rw [hf₂, State.calling_eq h.top, State.setFrames_setFrames, State.pushFrame, State.frames_setTop _ hr', State.setTop_of_frames _ hr', State.setFrames_setFrames, hr]
      rfl
    have hsame : U.sameButNew ({ U with heap := s₂.heap, slotsUsed := s₂.slotsUsed } : State) L mc ms := by
      refine ⟨?_, q2, q3, q4, q5, q6⟩
      obtain ⟨t, ht, -⟩ := State.frames_cons hr
      show ({ U with heap := s₂.heap, slotsUsed := s₂.slotsUsed } : State) = { U.setFrames U.frames with heap := s₂.heap, slotsUsed := s₂.slotsUsed }
      rw [State.setFrames_self ht]
    subst hg
    refine Or.inr ⟨q, ⟨(({ U with heap := s₂.heap, slotsUsed := s₂.slotsUsed } : State).setVm s₂.vm), Ls ++ L, c0 + mc, s0 + ms⟩,
      ⟨X.admits, X.cas, X.clock, X.frames, X.room, X.hears, X.method, X.code, (X.here.setHeapUsed s₂.heap s₂.slotsUsed).setVm hW'.alike, X.tail, State.WarmedH.trans X.warmed hW', X.limits, X.bytes, X.same.trans (hsame.setVm s.vm)⟩,
      ⟨g, mk, s₂, L, E, ce, rfl, rfl, hx, hce, hcv, hcl, rfl, hL, rfl, rfl⟩, ?_⟩
    show Steps p.tables e below _ (((({ U with heap := s₂.heap, slotsUsed := s₂.slotsUsed } : State).setVm s₂.vm).setTop g).pushFrame (.throwing q))
    rw [← hs₂]
    exact hsteps
end Payer
section Calls
variable {p : Program} {l : Launch} {e : Env} {R : Room} {s : State} {m : MethodId} {args : Array Value} {below : List Frame} {meth : Method} {c : Code} {T : State} {locs : List Loc} {cells slots : Nat}
theorem vx_callV (X : Stand p l e R s m args below meth c T locs cells slots) (hexec : p.tables.exec = Jvm.exec) {own C : String} {index : Nat} {y : MethodName} {bytes : ByteArray} {maxL : Nat} {ret : Option FieldType}
    (hown : s.vm.findClass own = some m.cls) (hlink : (Cond.methodLink own index y).before args s = true) (hinst : (Cond.instanceMethod y).before args s = true) (hsel : (Cond.selects C y y).before args s = true)
    (hcode : (Cond.code y bytes maxL ret).before args s = true) (hy : y.cls ≠ "java/lang/invoke/MethodHandle" ∧ y.cls ≠ "java/lang/invoke/VarHandle")
    {W9 : Nat} {Pre : Pt → Array Value → Prop} {Post : Pt → Array Value → Option Value → Pt → Prop} {PostX : Pt → Array Value → Addr → Pt → Prop} (hK : vx_Back l R p e below s args y 3 W9 Pre Post PostX)
    {b : Addr} {cellB : Cell} (hcell : T.heap[b]? = some cellB) (hobj : cellB.vm.isStatics = false) (hcls : s.vm.findClass C = some cellB.cls)
    {g : JFrame} (hg : g.method = m) (hsize : g.locals.size = c.maxLocals) {argsL rest : List Value} (hlen : ∀ sig, parseMethodDescriptor y.desc = some sig → argsL.length = sig.parameters.length)
    (hstack : g.stack = argsL.reverse ++ .ref b :: rest) (hW : 2 * g.monitorRoom + (rest.map fun v => v.category).sum ≤ W9) (hdg : decode c.code g.pc = .ok (.invokevirtual index, 3))
    (hpre : ∀ vm₁, s.WarmedH vm₁ → Pre ⟨T.setVm vm₁, locs, cells, slots⟩ (Value.ref b :: argsL).toArray) :
    (∃ (v : Option Value) (vm₁ : Vm) (B : Pt), s.WarmedH vm₁ ∧ Stand p l e R s m args below meth c B.U B.locs B.cells B.slots ∧ Post ⟨T.setVm vm₁, locs, cells, slots⟩ (Value.ref b :: argsL).toArray v B ∧
      ∀ target, Steps p.tables e below (B.U.setTop { g with pc := g.pc + 3, stack := v.toList ++ rest }) target → Steps p.tables e below (T.setTop g) target) ∨
    (∃ (q : Addr) (vm₁ : Vm) (B : Pt), s.WarmedH vm₁ ∧ Stand p l e R s m args below meth c B.U B.locs B.cells B.slots ∧ PostX ⟨T.setVm vm₁, locs, cells, slots⟩ (Value.ref b :: argsL).toArray q B ∧
      Steps p.tables e below (T.setTop g) ((B.U.setTop { g with stack := rest }).pushFrame (.throwing q))) := by
  obtain ⟨mk, methM, hnamed, hmethM, hstM, habM⟩ := Cond.instanceMethod_spec hinst
  obtain ⟨methM', cM, hmethM', -, -, -, -, -, -, hsigM⟩ := Cond.code_spec hnamed hcode
  cases hmethM.symm.trans hmethM'
  obtain ⟨c2, r2, m2, q1, q2, q3, q4, kP, hkP, hkPi⟩ := Cond.selects_spec hsel
  cases hcls.symm.trans q1
  cases (State.methodFound?_of_named hnamed hy).symm.trans q2
  cases hnamed.symm.trans q3
  have hselP : selectMethod e.platform s.vm cellB.cls mk = .method mk := by rw [Launch.admits_selectMethod X.admits]; exact q4
  obtain ⟨vm₁, X₁, hstep₁⟩ := X.invokevirtual hexec hown hlink hnamed hmethM hstM hkP hkPi hy (a := b) (cell := cellB) hcell
    (fun z h => by rw [h] at hobj; cases hobj) hselP hmethM habM hkP hkPi (g := g) hg (argsL := argsL) (rest := rest) (hlen _ hsigM) hstack hdg
  rcases hK m meth c ⟨T.setVm vm₁, locs, cells, slots⟩ { g with stack := rest } (.invokevirtual index) mk (Value.ref b :: argsL).toArray X₁ hg hsize hdg hW (X₁.named hnamed) (hpre vm₁ X₁.warmed) with ⟨v, B, X', hpost, hsteps⟩ | ⟨q, B, X', hpost, hsteps⟩
  · exact Or.inl ⟨v, vm₁, B, X₁.warmed, X', hpost, fun target h => hstep₁ _ fun acts => by rw [doInvoke_state]; exact hsteps.trans h⟩
  · exact Or.inr ⟨q, vm₁, B, X₁.warmed, X', hpost, hstep₁ _ fun acts => by rw [doInvoke_state]; exact hsteps⟩
theorem vx_callS (X : Stand p l e R s m args below meth c T locs cells slots) (hexec : p.tables.exec = Jvm.exec) {own : String} {index : Nat} {y : MethodName} {bytes : ByteArray} {maxL : Nat} {ret : Option FieldType}
    (hown : s.vm.findClass own = some m.cls) (hlink : (Cond.methodLink own index y).before args s = true) (hstat : (Cond.static y).before args s = true) (hinit : (Cond.initialized y.cls).before args s = true)
    (hcode : (Cond.code y bytes maxL ret).before args s = true) (hy : y.cls ≠ "java/lang/invoke/MethodHandle" ∧ y.cls ≠ "java/lang/invoke/VarHandle")
    {W9 : Nat} {Pre : Pt → Array Value → Prop} {Post : Pt → Array Value → Option Value → Pt → Prop} {PostX : Pt → Array Value → Addr → Pt → Prop} (hK : vx_Back l R p e below s args y 3 W9 Pre Post PostX)
    {g : JFrame} (hg : g.method = m) (hsize : g.locals.size = c.maxLocals) {argsL rest : List Value} (hlen : ∀ sig, parseMethodDescriptor y.desc = some sig → argsL.length = sig.parameters.length)
    (hstack : g.stack = argsL.reverse ++ rest) (hW : 2 * g.monitorRoom + (rest.map fun v => v.category).sum ≤ W9) (hdg : decode c.code g.pc = .ok (.invokestatic index, 3))
    (hpre : ∀ vm₁, s.WarmedH vm₁ → Pre ⟨T.setVm vm₁, locs, cells, slots⟩ argsL.toArray) :
    (∃ (v : Option Value) (vm₁ : Vm) (B : Pt), s.WarmedH vm₁ ∧ Stand p l e R s m args below meth c B.U B.locs B.cells B.slots ∧ Post ⟨T.setVm vm₁, locs, cells, slots⟩ argsL.toArray v B ∧
      ∀ target, Steps p.tables e below (B.U.setTop { g with pc := g.pc + 3, stack := v.toList ++ rest }) target → Steps p.tables e below (T.setTop g) target) ∨
    (∃ (q : Addr) (vm₁ : Vm) (B : Pt), s.WarmedH vm₁ ∧ Stand p l e R s m args below meth c B.U B.locs B.cells B.slots ∧ PostX ⟨T.setVm vm₁, locs, cells, slots⟩ argsL.toArray q B ∧
      Steps p.tables e below (T.setTop g) ((B.U.setTop { g with stack := rest }).pushFrame (.throwing q))) := by
  obtain ⟨mk, hnamed⟩ := Cond.code_named hcode
  obtain ⟨methM, cM, hmethM, -, -, -, -, -, -, hsigM⟩ := Cond.code_spec hnamed hcode
  have hstatic : methM.isStatic = true := Cond.static_spec hnamed hmethM hstat
  obtain ⟨kP, hkP, -⟩ := className_of_methodNamed hnamed
  have hinitP : kP.init = .initialized := Cond.initialized_spec (findClass_of_methodNamed hnamed) hkP hinit
  obtain ⟨vm₁, X₁, hstep₁⟩ := X.invokestatic hexec hown hlink hnamed hmethM hstatic hkP hinitP hy (g := g) hg (argsL := argsL) (rest := rest) (hlen _ hsigM) hstack hdg
  rcases hK m meth c ⟨T.setVm vm₁, locs, cells, slots⟩ { g with stack := rest } (.invokestatic index) mk argsL.toArray X₁ hg hsize hdg hW (X₁.named hnamed) (hpre vm₁ X₁.warmed) with ⟨v, B, X', hpost, hsteps⟩ | ⟨q, B, X', hpost, hsteps⟩
  · exact Or.inl ⟨v, vm₁, B, X₁.warmed, X', hpost, fun target h => hstep₁ _ fun acts => by rw [doInvoke_state]; exact hsteps.trans h⟩
  · exact Or.inr ⟨q, vm₁, B, X₁.warmed, X', hpost, hstep₁ _ fun acts => by rw [doInvoke_state]; exact hsteps⟩
end Calls
theorem vx_cls {s : State} {T : State} {vm₁ : Vm} {E : String} {k : ClassId} (hW : s.WarmedH vm₁) (h : (T.setVm vm₁).vm.findClass E = some k) : s.vm.findClass E = some k := by
  have h1 : vm₁.findClass E = some k := h
  rw [hW.alike.findClass] at h1
  exact h1
/-- the method's frame g, with q thrown over it -/
def vx_W (p : Program) (l : Launch) (e : Env) (R : Room) (s : State) (m : MethodId) (args : Array Value) (below : List Frame) (meth : Method) (c : Code) (H : Heap) (locs : List Loc) (cells slots : Nat) (Q : State → Prop) (g : JFrame) (q : Addr) : Prop :=
  ∀ T : State, T.heap = H → Stand p l e R s m args below meth c T locs cells slots → ∃ t, Steps p.tables e below ((T.setTop g).pushFrame (.throwing q)) t ∧ Q t
def vx_Run (p : Program) (l : Launch) (e : Env) (R : Room) (s : State) (m : MethodId) (args : Array Value) (below : List Frame) (meth : Method) (c : Code) (H : Heap) (locs : List Loc) (cells slots mc ms : Nat) (g : JFrame) (rest : List Value) (Qa : State → Outcome → State → Prop) (XC : String → State → State → Prop) (free : Addr → Prop) : Prop :=
  ∀ T : State, T.heap = H → Stand p l e R s m args below meth c T locs cells slots →
    (∃ (v : Option Value) (st₀ t T' : State) (L : List Loc), st₀.heap = H ∧ Stand p l e R s m args below meth c T' (locs ++ L) (cells + mc) (slots + ms) ∧ (∀ q ∈ L, free q.base) ∧ T'.heap = t.heap ∧ T'.vm = t.vm ∧ Qa st₀ (.returned v) t ∧
      Goes p e below T g T' { g with pc := g.pc + 3, stack := v.toList ++ rest }) ∨
    (∃ (q : Addr) (st₀ t T' : State) (L : List Loc) (E : String) (ce : Cell), st₀.heap = H ∧ Stand p l e R s m args below meth c T' (locs ++ L) (cells + mc) (slots + ms) ∧ (∀ z ∈ L, free z.base) ∧ T'.heap = t.heap ∧ T'.vm = t.vm ∧ XC E st₀ t ∧ t.heap[q]? = some ce ∧ ce.vm = .none ∧ s.vm.findClass E = some ce.cls ∧
      Steps p.tables e below (T.setTop g) ((T'.setTop { g with stack := rest }).pushFrame (.throwing q)))
def vx_X {S : Type} (px : S → Prop) (B : String → S → State → Prop) (A : Nat → Prop) : String → State → State → Prop := fun E st t => ∃ u : S, px u ∧ B E u t ∧ va_F A st t
section Runs
variable {p : Program} {l : Launch} {e : Env} {R : Room} {s : State} {m : MethodId} {args : Array Value} {below : List Frame} {meth : Method} {c : Code} {H : Heap} {locs : List Loc} {cells slots : Nat}
variable {y : MethodName} {bytes cc : ByteArray} {maxL nL mc ms n index : Nat} {ret : Option FieldType} {ws : List Cond} {rm : Room} {Pc : Array Value → State → Prop} {Qc : Array Value → State → Outcome → State → Prop} {XC : String → State → State → Prop} {free : Addr → Prop} {Ts : List Cond} {own C : String} {b : Addr} {As rest : List Value} {g : JFrame}
theorem vx_callBack (cb : CallB R s args own index y bytes maxL ret ws rm mc ms n) (hM : vx_Met l y ws rm Pc Qc XC mc ms free) (hbl : FrameBlind Pc) : vx_Back l R p e below s args y 3 8 (PreOf R mc ms Pc) (PostOf Qc mc ms free) (vx_Post XC mc ms free) := by
  obtain ⟨hrc, hrs, hfr, hlo, hws, hcw, -, hini, -⟩ := cb
  exact vx_back (bytes := bytes) (maxL := maxL) (ret := ret) hM hbl hrc hrs hfr hlo hws hcw (fun a' U hW => word_at hW (Or.inl (by first | rfl | simp [Cond.onTables, Cond.keeps, Cond.steady])) hini)
theorem vx_runV (S : CallFix p m c cc nL s args Ts own) (hM : vx_Met l y ws rm Pc Qc XC mc ms free) (cw : CallW R s args own C index y bytes maxL ret ws rm mc ms n) (hp : PreV s H C b Pc As)
    (hg : g.method = m) (hn : As.length = n) (hsize : g.locals.size = nL) (hstack : g.stack = As.reverse ++ .ref b :: rest) (hW : 2 * g.monitorRoom + (rest.map fun v => v.category).sum ≤ 8) (hdg : decode cc g.pc = .ok (.invokevirtual index, 3)) (hf : cells + mc ≤ R.cells ∧ slots + ms ≤ R.slots) :
    vx_Run p l e R s m args below meth c H locs cells slots mc ms g rest (Qc (Value.ref b :: As).toArray) XC free := by
  have hK : vx_Back l R p e below s args y 3 8 (PreOf R mc ms Pc) (PostOf Qc mc ms free) (vx_Post XC mc ms free) := vx_callBack cw.1 hM hp.1
  obtain ⟨⟨-, -, -, -, -, -, hcode, -, hy, hlen, hl⟩, hin, hse⟩ := cw
  obtain ⟨hx, hb, hml, ho, -⟩ := S
  obtain ⟨-, ⟨cellB, hcB, hoB, hclB⟩, hPc⟩ := hp
  intro T hT X
  rcases vx_callV X hx (C := C) (bytes := bytes) (maxL := maxL) (ret := ret) ho hl hin hse hcode hy hK (by rw [hT]; exact hcB) hoB hclB hg (hsize.trans hml.symm) (argsL := As) (rest := rest) (fun sig h => hn.trans (hlen sig h)) hstack hW (by rw [hb]; exact hdg)
    (fun vm₁ hW₁ => ⟨hf.1, hf.2, hPc (T.setVm vm₁) hT hW₁⟩) with ⟨v, vm₁, ⟨U', l2, c2, s2⟩, hW₁, X', ⟨g', mk, t, L, e1, e2, hq, h1, hL, h2, h3⟩, st⟩ | ⟨q, vm₁, ⟨U', l2, c2, s2⟩, hW₁, X', ⟨g', mk, t, L, E, ce, e1, e2, hq, hce, hcv, hcl, h1, hL, h2, h3⟩, st⟩
  · dsimp only [Pt.U, Pt.locs, Pt.cells, Pt.slots] at X' e1 e2 h1 h2 h3 st
    subst h1; subst h2; subst h3
    exact Or.inl ⟨v, (T.setVm vm₁).calling g' mk (Value.ref b :: As).toArray, t, U', L, hT, X', hL, e1, e2, hq, st⟩
  · dsimp only [Pt.U, Pt.locs, Pt.cells, Pt.slots] at X' e1 e2 h1 h2 h3 st hcl
    subst h1; subst h2; subst h3
    exact Or.inr ⟨q, (T.setVm vm₁).calling g' mk (Value.ref b :: As).toArray, t, U', L, E, ce, hT, X', hL, e1, e2, hq, hce, hcv, vx_cls hW₁ hcl, st⟩
theorem vx_runS (S : CallFix p m c cc nL s args Ts own) (hM : vx_Met l y ws rm Pc Qc XC mc ms free) (cw : CallB R s args own index y bytes maxL ret ws rm mc ms n ∧ (Cond.static y).before args s = true) (hp : PreS s H Pc As)
    (hg : g.method = m) (hn : As.length = n) (hsize : g.locals.size = nL) (hstack : g.stack = As.reverse ++ rest) (hW : 2 * g.monitorRoom + (rest.map fun v => v.category).sum ≤ 8) (hdg : decode cc g.pc = .ok (.invokestatic index, 3)) (hf : cells + mc ≤ R.cells ∧ slots + ms ≤ R.slots) :
    vx_Run p l e R s m args below meth c H locs cells slots mc ms g rest (Qc As.toArray) XC free := by
  have hK : vx_Back l R p e below s args y 3 8 (PreOf R mc ms Pc) (PostOf Qc mc ms free) (vx_Post XC mc ms free) := vx_callBack cw.1 hM hp.1
  obtain ⟨⟨-, -, -, -, -, -, hcode, hini, hy, hlen, hl⟩, hstt⟩ := cw
  obtain ⟨hx, hb, hml, ho, -⟩ := S
  intro T hT X
  rcases vx_callS X hx (bytes := bytes) (maxL := maxL) (ret := ret) ho hl hstt hini hcode hy hK hg (hsize.trans hml.symm) (argsL := As) (rest := rest) (fun sig h => hn.trans (hlen sig h)) hstack hW (by rw [hb]; exact hdg)
    (fun vm₁ hW₁ => ⟨hf.1, hf.2, hp.2 (T.setVm vm₁) hT hW₁⟩) with ⟨v, vm₁, ⟨U', l2, c2, s2⟩, hW₁, X', ⟨g', mk, t, L, e1, e2, hq, h1, hL, h2, h3⟩, st⟩ | ⟨q, vm₁, ⟨U', l2, c2, s2⟩, hW₁, X', ⟨g', mk, t, L, E, ce, e1, e2, hq, hce, hcv, hcl, h1, hL, h2, h3⟩, st⟩
  · dsimp only [Pt.U, Pt.locs, Pt.cells, Pt.slots] at X' e1 e2 h1 h2 h3 st
    subst h1; subst h2; subst h3
    exact Or.inl ⟨v, (T.setVm vm₁).calling g' mk As.toArray, t, U', L, hT, X', hL, e1, e2, hq, st⟩
  · dsimp only [Pt.U, Pt.locs, Pt.cells, Pt.slots] at X' e1 e2 h1 h2 h3 st hcl
    subst h1; subst h2; subst h3
    exact Or.inr ⟨q, (T.setVm vm₁).calling g' mk As.toArray, t, U', L, E, ce, hT, X', hL, e1, e2, hq, hce, hcv, vx_cls hW₁ hcl, st⟩
end Runs
section Rows
variable {p : Program} {l : Launch} {e : Env} {R : Room} {s : State} {m : MethodId} {args : Array Value} {below : List Frame} {meth : Method} {c : Code} {H : Heap} {locs : List Loc} {cells slots : Nat} {Q : State → Prop}
variable {mc ms : Nat} {free : Addr → Prop} {A0 A1 : Nat → Prop} {H0 : Heap} {a : Array Value} {pc : Nat} {ls : Array Slot} {st0 rest : List Value}
theorem vx_keep {st₀ t T' : State} {L : List Loc} (h0 : st₀.heap = H) (e1 : T'.heap = t.heap) (hS : va_S A0 H0 H locs) (hA : ∀ q, q < H.size → A1 q → A0 q) (hf : ∀ q, free q → A0 q) (hL : ∀ q ∈ L, free q.base) (hF : va_F A1 st₀ t) :
    H.size ≤ T'.heap.size ∧ (∀ q : Nat, q < H.size → ¬ A1 q → T'.heap[q]? = H[q]?) ∧ va_S A0 H0 T'.heap (locs ++ L) := by
  obtain ⟨hz, hk⟩ := hF
  rw [h0] at hz hk
  exact ⟨by rw [e1]; exact hz, fun q h1 h2 => by rw [e1]; exact hk q h1 h2,
    ⟨Nat.le_trans hS.1 (by rw [e1]; exact hz), fun q h1 h2 => by rw [e1, hk q (Nat.lt_of_lt_of_le h1 hS.1) (fun z => h2 (hA q (Nat.lt_of_lt_of_le h1 hS.1) z))]; exact hS.2.1 q h1 h2, fun q hq => by
      rcases List.mem_append.mp hq with h | h
      · exact hS.2.2 q h
      · exact hf _ (hL q h)⟩⟩
theorem vx_calli {S SX : Type} {post : Int32 → S → Prop} {px : SX → Prop} {B : S → State → Prop} {BX : String → SX → State → Prop} {AX : Nat → Prop} (hr : vx_Run p l e R s m args below meth c H locs cells slots mc ms (F0 m pc ls st0) rest (va_Qi post B A1 a) (vx_X px BX AX) free) (hS : va_S A0 H0 H locs) (hA : ∀ q, q < H.size → A1 q → A0 q) (hf : ∀ q, free q → A0 q) (hAX : ∀ q, q < H.size → AX q → A0 q)
    (kx : ∀ (E : String) (ce : Cell) (q9 : Addr) (u : SX) (t : State) (H1 : Heap) (locs1 : List Loc), t.heap = H1 → s.vm.Alike t.vm → px u → BX E u t → H.size ≤ H1.size → (∀ q : Nat, q < H.size → ¬ AX q → H1[q]? = H[q]?) → va_S A0 H0 H1 locs1 → H1[q9]? = some ce → ce.vm = .none → s.vm.findClass E = some ce.cls → vx_W p l e R s m args below meth c H1 locs1 (cells + mc) (slots + ms) Q (F0 m pc ls rest) q9)
    (kk : ∀ (r : Int32) (u : S) (t : State) (H1 : Heap) (locs1 : List Loc), t.heap = H1 → s.vm.Alike t.vm → post r u → B u t → H.size ≤ H1.size → (∀ q : Nat, q < H.size → ¬ A1 q → H1[q]? = H[q]?) → va_S A0 H0 H1 locs1 → W p l e R s m args below meth c H1 locs1 (cells + mc) (slots + ms) Q (F0 m (pc + 3) ls (.int r :: rest))) : W p l e R s m args below meth c H locs cells slots Q (F0 m pc ls st0) := by
  intro T hT X
  rcases hr T hT X with ⟨v, st₀, t, T', L, h0, X', hL, e1, e2, ⟨⟨r, u, hv, hp, hb⟩, hF⟩, st⟩ | ⟨q, st₀, t, T', L, E, ce, h0, X', hL, e1, e2, ⟨u, hp, hb, hF⟩, hce, hcv, hcl, st⟩
  · cases hv
    obtain ⟨k1, k2, k3⟩ := vx_keep h0 e1 hS hA hf hL hF
    obtain ⟨t2, a1, b1⟩ := kk r u t T'.heap (locs ++ L) e1.symm (by rw [← e2]; exact X'.warmed.alike) hp hb k1 k2 k3 T' rfl X'
    exact ⟨t2, st t2 a1, b1⟩
  · obtain ⟨k1, k2, k3⟩ := vx_keep h0 e1 hS hAX hf hL hF
    obtain ⟨t2, a1, b1⟩ := kx E ce q u t T'.heap (locs ++ L) e1.symm (by rw [← e2]; exact X'.warmed.alike) hp hb k1 k2 k3 (by rw [e1]; exact hce) hcv hcl T' rfl X'
    exact ⟨t2, st.trans a1, b1⟩
theorem vx_calll {S SX : Type} {post : Int64 → S → Prop} {px : SX → Prop} {B : S → State → Prop} {BX : String → SX → State → Prop} {AX : Nat → Prop} (hr : vx_Run p l e R s m args below meth c H locs cells slots mc ms (F0 m pc ls st0) rest (va_Ql post B A1 a) (vx_X px BX AX) free) (hS : va_S A0 H0 H locs) (hA : ∀ q, q < H.size → A1 q → A0 q) (hf : ∀ q, free q → A0 q) (hAX : ∀ q, q < H.size → AX q → A0 q)
    (kx : ∀ (E : String) (ce : Cell) (q9 : Addr) (u : SX) (t : State) (H1 : Heap) (locs1 : List Loc), t.heap = H1 → s.vm.Alike t.vm → px u → BX E u t → H.size ≤ H1.size → (∀ q : Nat, q < H.size → ¬ AX q → H1[q]? = H[q]?) → va_S A0 H0 H1 locs1 → H1[q9]? = some ce → ce.vm = .none → s.vm.findClass E = some ce.cls → vx_W p l e R s m args below meth c H1 locs1 (cells + mc) (slots + ms) Q (F0 m pc ls rest) q9)
    (kk : ∀ (r : Int64) (u : S) (t : State) (H1 : Heap) (locs1 : List Loc), t.heap = H1 → s.vm.Alike t.vm → post r u → B u t → H.size ≤ H1.size → (∀ q : Nat, q < H.size → ¬ A1 q → H1[q]? = H[q]?) → va_S A0 H0 H1 locs1 → W p l e R s m args below meth c H1 locs1 (cells + mc) (slots + ms) Q (F0 m (pc + 3) ls (.long r :: rest))) : W p l e R s m args below meth c H locs cells slots Q (F0 m pc ls st0) := by
  intro T hT X
  rcases hr T hT X with ⟨v, st₀, t, T', L, h0, X', hL, e1, e2, ⟨⟨r, u, hv, hp, hb⟩, hF⟩, st⟩ | ⟨q, st₀, t, T', L, E, ce, h0, X', hL, e1, e2, ⟨u, hp, hb, hF⟩, hce, hcv, hcl, st⟩
  · cases hv
    obtain ⟨k1, k2, k3⟩ := vx_keep h0 e1 hS hA hf hL hF
    obtain ⟨t2, a1, b1⟩ := kk r u t T'.heap (locs ++ L) e1.symm (by rw [← e2]; exact X'.warmed.alike) hp hb k1 k2 k3 T' rfl X'
    exact ⟨t2, st t2 a1, b1⟩
  · obtain ⟨k1, k2, k3⟩ := vx_keep h0 e1 hS hAX hf hL hF
    obtain ⟨t2, a1, b1⟩ := kx E ce q u t T'.heap (locs ++ L) e1.symm (by rw [← e2]; exact X'.warmed.alike) hp hb k1 k2 k3 (by rw [e1]; exact hce) hcv hcl T' rfl X'
    exact ⟨t2, st.trans a1, b1⟩
theorem vx_callf {S SX : Type} {post : UInt32 → S → Prop} {px : SX → Prop} {B : S → State → Prop} {BX : String → SX → State → Prop} {AX : Nat → Prop} (hr : vx_Run p l e R s m args below meth c H locs cells slots mc ms (F0 m pc ls st0) rest (va_Qf post B A1 a) (vx_X px BX AX) free) (hS : va_S A0 H0 H locs) (hA : ∀ q, q < H.size → A1 q → A0 q) (hf : ∀ q, free q → A0 q) (hAX : ∀ q, q < H.size → AX q → A0 q)
    (kx : ∀ (E : String) (ce : Cell) (q9 : Addr) (u : SX) (t : State) (H1 : Heap) (locs1 : List Loc), t.heap = H1 → s.vm.Alike t.vm → px u → BX E u t → H.size ≤ H1.size → (∀ q : Nat, q < H.size → ¬ AX q → H1[q]? = H[q]?) → va_S A0 H0 H1 locs1 → H1[q9]? = some ce → ce.vm = .none → s.vm.findClass E = some ce.cls → vx_W p l e R s m args below meth c H1 locs1 (cells + mc) (slots + ms) Q (F0 m pc ls rest) q9)
    (kk : ∀ (r : UInt32) (u : S) (t : State) (H1 : Heap) (locs1 : List Loc), t.heap = H1 → s.vm.Alike t.vm → post r u → B u t → H.size ≤ H1.size → (∀ q : Nat, q < H.size → ¬ A1 q → H1[q]? = H[q]?) → va_S A0 H0 H1 locs1 → W p l e R s m args below meth c H1 locs1 (cells + mc) (slots + ms) Q (F0 m (pc + 3) ls (.float r :: rest))) : W p l e R s m args below meth c H locs cells slots Q (F0 m pc ls st0) := by
  intro T hT X
  rcases hr T hT X with ⟨v, st₀, t, T', L, h0, X', hL, e1, e2, ⟨⟨r, u, hv, hp, hb⟩, hF⟩, st⟩ | ⟨q, st₀, t, T', L, E, ce, h0, X', hL, e1, e2, ⟨u, hp, hb, hF⟩, hce, hcv, hcl, st⟩
  · cases hv
    obtain ⟨k1, k2, k3⟩ := vx_keep h0 e1 hS hA hf hL hF
    obtain ⟨t2, a1, b1⟩ := kk r u t T'.heap (locs ++ L) e1.symm (by rw [← e2]; exact X'.warmed.alike) hp hb k1 k2 k3 T' rfl X'
    exact ⟨t2, st t2 a1, b1⟩
  · obtain ⟨k1, k2, k3⟩ := vx_keep h0 e1 hS hAX hf hL hF
    obtain ⟨t2, a1, b1⟩ := kx E ce q u t T'.heap (locs ++ L) e1.symm (by rw [← e2]; exact X'.warmed.alike) hp hb k1 k2 k3 (by rw [e1]; exact hce) hcv hcl T' rfl X'
    exact ⟨t2, st.trans a1, b1⟩
theorem vx_calld {S SX : Type} {post : UInt64 → S → Prop} {px : SX → Prop} {B : S → State → Prop} {BX : String → SX → State → Prop} {AX : Nat → Prop} (hr : vx_Run p l e R s m args below meth c H locs cells slots mc ms (F0 m pc ls st0) rest (va_Qd post B A1 a) (vx_X px BX AX) free) (hS : va_S A0 H0 H locs) (hA : ∀ q, q < H.size → A1 q → A0 q) (hf : ∀ q, free q → A0 q) (hAX : ∀ q, q < H.size → AX q → A0 q)
    (kx : ∀ (E : String) (ce : Cell) (q9 : Addr) (u : SX) (t : State) (H1 : Heap) (locs1 : List Loc), t.heap = H1 → s.vm.Alike t.vm → px u → BX E u t → H.size ≤ H1.size → (∀ q : Nat, q < H.size → ¬ AX q → H1[q]? = H[q]?) → va_S A0 H0 H1 locs1 → H1[q9]? = some ce → ce.vm = .none → s.vm.findClass E = some ce.cls → vx_W p l e R s m args below meth c H1 locs1 (cells + mc) (slots + ms) Q (F0 m pc ls rest) q9)
    (kk : ∀ (r : UInt64) (u : S) (t : State) (H1 : Heap) (locs1 : List Loc), t.heap = H1 → s.vm.Alike t.vm → post r u → B u t → H.size ≤ H1.size → (∀ q : Nat, q < H.size → ¬ A1 q → H1[q]? = H[q]?) → va_S A0 H0 H1 locs1 → W p l e R s m args below meth c H1 locs1 (cells + mc) (slots + ms) Q (F0 m (pc + 3) ls (.double r :: rest))) : W p l e R s m args below meth c H locs cells slots Q (F0 m pc ls st0) := by
  intro T hT X
  rcases hr T hT X with ⟨v, st₀, t, T', L, h0, X', hL, e1, e2, ⟨⟨r, u, hv, hp, hb⟩, hF⟩, st⟩ | ⟨q, st₀, t, T', L, E, ce, h0, X', hL, e1, e2, ⟨u, hp, hb, hF⟩, hce, hcv, hcl, st⟩
  · cases hv
    obtain ⟨k1, k2, k3⟩ := vx_keep h0 e1 hS hA hf hL hF
    obtain ⟨t2, a1, b1⟩ := kk r u t T'.heap (locs ++ L) e1.symm (by rw [← e2]; exact X'.warmed.alike) hp hb k1 k2 k3 T' rfl X'
    exact ⟨t2, st t2 a1, b1⟩
  · obtain ⟨k1, k2, k3⟩ := vx_keep h0 e1 hS hAX hf hL hF
    obtain ⟨t2, a1, b1⟩ := kx E ce q u t T'.heap (locs ++ L) e1.symm (by rw [← e2]; exact X'.warmed.alike) hp hb k1 k2 k3 (by rw [e1]; exact hce) hcv hcl T' rfl X'
    exact ⟨t2, st.trans a1, b1⟩
theorem vx_callv {S SX : Type} {post : S → Prop} {px : SX → Prop} {B : S → State → Prop} {BX : String → SX → State → Prop} {AX : Nat → Prop} (hr : vx_Run p l e R s m args below meth c H locs cells slots mc ms (F0 m pc ls st0) rest (va_Qv post B A1 a) (vx_X px BX AX) free) (hS : va_S A0 H0 H locs) (hA : ∀ q, q < H.size → A1 q → A0 q) (hf : ∀ q, free q → A0 q) (hAX : ∀ q, q < H.size → AX q → A0 q)
    (kx : ∀ (E : String) (ce : Cell) (q9 : Addr) (u : SX) (t : State) (H1 : Heap) (locs1 : List Loc), t.heap = H1 → s.vm.Alike t.vm → px u → BX E u t → H.size ≤ H1.size → (∀ q : Nat, q < H.size → ¬ AX q → H1[q]? = H[q]?) → va_S A0 H0 H1 locs1 → H1[q9]? = some ce → ce.vm = .none → s.vm.findClass E = some ce.cls → vx_W p l e R s m args below meth c H1 locs1 (cells + mc) (slots + ms) Q (F0 m pc ls rest) q9)
    (kk : ∀ (u : S) (t : State) (H1 : Heap) (locs1 : List Loc), t.heap = H1 → s.vm.Alike t.vm → post u → B u t → H.size ≤ H1.size → (∀ q : Nat, q < H.size → ¬ A1 q → H1[q]? = H[q]?) → va_S A0 H0 H1 locs1 → W p l e R s m args below meth c H1 locs1 (cells + mc) (slots + ms) Q (F0 m (pc + 3) ls (rest))) : W p l e R s m args below meth c H locs cells slots Q (F0 m pc ls st0) := by
  intro T hT X
  rcases hr T hT X with ⟨v, st₀, t, T', L, h0, X', hL, e1, e2, ⟨⟨u, hv, hp, hb⟩, hF⟩, st⟩ | ⟨q, st₀, t, T', L, E, ce, h0, X', hL, e1, e2, ⟨u, hp, hb, hF⟩, hce, hcv, hcl, st⟩
  · cases hv
    obtain ⟨k1, k2, k3⟩ := vx_keep h0 e1 hS hA hf hL hF
    obtain ⟨t2, a1, b1⟩ := kk u t T'.heap (locs ++ L) e1.symm (by rw [← e2]; exact X'.warmed.alike) hp hb k1 k2 k3 T' rfl X'
    exact ⟨t2, st t2 a1, b1⟩
  · obtain ⟨k1, k2, k3⟩ := vx_keep h0 e1 hS hAX hf hL hF
    obtain ⟨t2, a1, b1⟩ := kx E ce q u t T'.heap (locs ++ L) e1.symm (by rw [← e2]; exact X'.warmed.alike) hp hb k1 k2 k3 (by rw [e1]; exact hce) hcv hcl T' rfl X'
    exact ⟨t2, st.trans a1, b1⟩
/-- caught by the row x of this method's table; the rows ahead don't take it -/
theorem vx_catch {own name : String} {E : String} {ce : Cell} {q : Addr} (hown : s.vm.findClass own = some m.cls) (pre : List ExceptionTableEntry) (x : ExceptionTableEntry) (suf : List ExceptionTableEntry) (hsplit : c.exceptionTable.toList = pre ++ x :: suf)
    (hpass : ∀ z ∈ pre, covers z pc = false ∨ (z.catchType ≠ 0 ∧ ∃ nm : String, (Cond.classLink own z.catchType nm).before args s = true ∧ va_Nc E nm s)) (hx : covers x pc = true) (h0 : x.catchType ≠ 0)
    (hlink : (Cond.classLink own x.catchType name).before args s = true) (hcast : (Cond.castable E name).before args s = true) (hcell : H[q]? = some ce) (hv : ce.vm = .none) (hcl : s.vm.findClass E = some ce.cls)
    (kk : W p l e R s m args below meth c H locs cells slots Q (F0 m x.handlerPc ls [.ref q])) : vx_W p l e R s m args below meth c H locs cells slots Q (F0 m pc ls rest) q := by
  intro T hT X
  have hpl : e.platform.magicAccessors = ({} : Platform).magicAccessors := by rw [X.admits.platform]
  obtain ⟨c3, c4, hc3, hc4, hasg⟩ := Cond.castable_spec hcast
  cases Option.some.inj (hc3.symm.trans hcl)
  obtain ⟨c5, hc5, hcl5⟩ := Cond.classLink_spec hown hlink e.platform hpl
  cases Option.some.inj (hc4.symm.trans hc5)
  obtain ⟨vm', X', st⟩ := X.thenCaughtThrough q (g := F0 m pc ls rest) rfl (Steps.refl _) (by rw [hT]; exact hcell) (by rw [hv]; rfl) (by obtain ⟨k9, h9, -⟩ := Vm.findClass_spec hcl; exact ⟨k9, h9⟩) pre x suf hsplit
    (fun z hz => by
      rcases hpass z hz with h | ⟨hz0, nm, hl1, hn1⟩
      · exact Or.inl h
      · obtain ⟨c6, hc6, hcl6⟩ := Cond.classLink_spec hown hl1 e.platform hpl
        obtain ⟨a8, b8, h1, h2, h3⟩ := hn1
        cases Option.some.inj (h1.symm.trans hcl)
        cases Option.some.inj (h2.symm.trans hc6)
        exact Or.inr ⟨hz0, _, hcl6, h3⟩) hx (Or.inr ⟨h0, c4, hcl5, hasg⟩)
  obtain ⟨t, a1, b1⟩ := kk (T.setVm vm') hT X'
  exact ⟨t, st.trans a1, b1⟩
end Rows
section Ends
variable {p : Program} {l : Launch} {e : Env} {R : Room} {s : State} {m : MethodId} {args : Array Value} {below : List Frame} {meth : Method} {c : Code} {H : Heap} {locs : List Loc} {cells slots : Nat} {Q : State → Prop}
variable {mc ms : Nat} {free : Addr → Prop} {A0 A1 : Nat → Prop} {H0 : Heap} {a : Array Value} {ls : Array Slot} {st0 rest : List Value}
variable {Qc : Array Value → State → Outcome → State → Prop} {XC : String → State → State → Prop}
/-- what a body that may throw owes at its end -/
def vx_MQ (below : List Frame) (Qc : Array Value → State → Outcome → State → Prop) (XC : String → State → State → Prop) (a : Array Value) (s : State) (mc ms : Nat) (free : Addr → Prop) : State → Prop := fun t =>
  ∃ o, t.status = .running ∧ Ended t below o ∧ vx_Q Qc XC mc ms free a s o t
theorem vx_ret {g : JFrame} {mc ms : Nat} (k : W p l e R s m args below meth c H locs cells slots (MQ below Qc args s mc ms free) g) : W p l e R s m args below meth c H locs cells slots (vx_MQ below Qc XC args s mc ms free) g := by
  intro T hT X
  obtain ⟨t, a1, o, b1, b2, b3, b4⟩ := k T hT X
  exact ⟨t, a1, o, b1, b2, Or.inl ⟨b3, b4⟩⟩
/-- not caught here: it goes on to the caller -/
theorem vx_widen {g : JFrame} {q : Addr} {k n : Nat} (h1 : cells ≤ k) (h2 : slots ≤ n) (kk : vx_W p l e R s m args below meth c H locs k n Q g q) : vx_W p l e R s m args below meth c H locs cells slots Q g q := fun T hT X => kk T hT (stand_widen X h1 h2)
theorem vx_out {pc : Nat} {E : String} {ce : Cell} {q : Addr} {mc ms : Nat} (hout : ∀ x ∈ c.exceptionTable.toList, covers x pc = false) (hlocks : meth.locks = false) (hcell : H[q]? = some ce) (hv : ce.vm = .none) (hcl : s.vm.findClass E = some ce.cls)
    (hx : ∀ t : State, t.heap = H → s.vm.Alike t.vm → XC E s t) (hf : ∀ z ∈ locs, free z.base) (hc : cells ≤ mc) (hs : slots ≤ ms) :
    vx_W p l e R s m args below meth c H locs cells slots (vx_MQ below Qc XC args s mc ms free) (F0 m pc ls rest) q := by
  intro T hT X
  obtain ⟨st1, hrun, hend, hW, hsm⟩ := X.leaveThrown q (g := F0 m pc ls rest) rfl rfl rfl hout hlocks
  have hcell9 : (T.setFrames (.throwing q :: below)).heap[q]? = some ce := by
    show T.heap[q]? = some ce
    rw [hT]; exact hcell
  exact ⟨_, st1, .threw q, hrun, hend, Or.inr ⟨q, rfl, E, ce, locs, hx _ hT hW.alike, hcell9, hv, hcl, hW, hsm.mono hc hs, hf⟩⟩
theorem vx_frame {U : State} {k n : Nat} (h : s.sameButNew ({ U with vm := s.vm } : State) locs k n) : s.heap.size ≤ U.heap.size ∧ ∀ q : Nat, q < s.heap.size → (∀ z ∈ locs, z.base ≠ q) → U.heap[q]? = s.heap[q]? := by
  obtain ⟨-, h2, -, -, -, h6⟩ := h
  refine ⟨h2, fun q hq hz => ?_⟩
  obtain ⟨c9, e1, e2, e3, e4⟩ := h6 q _ (Array.getElem?_eq_getElem hq)
  have hs : c9.slots = (s.heap[q]).slots := Array.ext_getElem? fun i => e4 i fun hm => hz _ hm rfl
  have h9 : c9 = s.heap[q] := by
    rw [hs] at e2
    exact e2
  have e5 : U.heap[q]? = some c9 := e1
  rw [e5, h9, Array.getElem?_eq_getElem hq]
/-- the words of a throw but the four that speak of the heap -/
def vx_no (w : Cond) : Bool := decide (w ≠ .isRef (.static Bundle.tN "UNASSIGNED_STACK" Bundle.steD)) && decide (w ≠ .isRef (.static Bundle.tN "SUPPRESSED_SENTINEL" Bundle.listD)) && decide (w ≠ .laysStatic Bundle.tN "UNASSIGNED_STACK" Bundle.steD) && decide (w ≠ .laysStatic Bundle.tN "SUPPRESSED_SENTINEL" Bundle.listD)
def vx_at0 (own : String) (ic : Nat) (X : String) (names : List String) : List Cond := (Bundle.ownAtoms0 own ic X names).filter vx_no
def vx_atS (own : String) (ic : Nat) (X : String) (names : List String) : List Cond := (Bundle.ownAtoms own ic X names).filter vx_no
/-- a word that the tables alone decide, or a good one -/
def vx_ot (w : Cond) : Bool := w.onTables || goodWord w
theorem vx_ot_at {args a' : Array Value} {s U : State} {w : Cond} (hW : s.WarmedH U.vm) (hvm : s.vm = U.vm) (hg : vx_ot w = true) (h : w.before args s = true) : w.before a' U = true := by
  simp only [vx_ot, Bool.or_eq_true] at hg
  rcases hg with hg | hg
  · exact va_tabs hg hvm h
  · exact word_at hW (good_of_word hg) h
/-- a list's words: the good ones out of the method's own list, the others by premises of their own -/
theorem vx_hat {args : Array Value} {s : State} {L B : List Cond} (h1 : ∀ w ∈ L.filter goodWord, w.before args s = true) (h2 : ∀ w ∈ L.filter (fun w => !goodWord w), w ∈ B) (h3 : ∀ w ∈ B, w.before args s = true) : ∀ w ∈ L, w.before args s = true := by
  intro w hw
  by_cases g : goodWord w = true
  · exact h1 w (List.mem_filter.mpr ⟨hw, g⟩)
  · refine h3 w (h2 w (List.mem_filter.mpr ⟨hw, ?_⟩))
    show (!goodWord w) = true
    cases hgw : goodWord w
    · rfl
    · exact absurd hgw g
theorem vx_c {args : Array Value} {s : State} {w : Cond} {B : List Cond} (h : w.before args s = true) (t : ∀ w ∈ B, w.before args s = true) : ∀ w' ∈ w :: B, w'.before args s = true := fun w' h' => (List.mem_cons.mp h').elim (fun e => by rw [e]; exact h) (t w')
theorem vx_n {args : Array Value} {s : State} : ∀ w ∈ ([] : List Cond), w.before args s = true := fun _ h => nomatch h
theorem vx_own {args : Array Value} {s : State} {L : List Cond} (h1 : ∀ w ∈ L.filter vx_no, w.before args s = true)
    (hU : (Cond.isRef (.static Bundle.tN "UNASSIGNED_STACK" Bundle.steD)).before args s = true) (hN : (Cond.isRef (.static Bundle.tN "SUPPRESSED_SENTINEL" Bundle.listD)).before args s = true)
    (lU : (Cond.laysStatic Bundle.tN "UNASSIGNED_STACK" Bundle.steD).before args s = true) (lN : (Cond.laysStatic Bundle.tN "SUPPRESSED_SENTINEL" Bundle.listD).before args s = true) : ∀ w ∈ L, w.before args s = true := by
  intro w hw
  by_cases e1 : w = .isRef (.static Bundle.tN "UNASSIGNED_STACK" Bundle.steD)
  · rw [e1]; exact hU
  · by_cases e2 : w = .isRef (.static Bundle.tN "SUPPRESSED_SENTINEL" Bundle.listD)
    · rw [e2]; exact hN
    · by_cases e3 : w = .laysStatic Bundle.tN "UNASSIGNED_STACK" Bundle.steD
      · rw [e3]; exact lU
      · by_cases e4 : w = .laysStatic Bundle.tN "SUPPRESSED_SENTINEL" Bundle.listD
        · rw [e4]; exact lN
        · exact h1 w (List.mem_filter.mpr ⟨hw, by unfold vx_no; rw [decide_eq_true e1, decide_eq_true e2, decide_eq_true e3, decide_eq_true e4]; rfl⟩)
/-- where a static field lies, its class's statics cell in H -/
def vx_L (C n d : String) (A : Nat → Prop) (U : State) (H : Heap) : Prop := ∃ (c : ClassId) (k : Class) (i : Nat) (f : Field) (a : Nat) (cell : Cell), U.vm.findClass C = some c ∧ U.fieldFound? C n d = some (c, k, i, f) ∧ f.isStatic = true ∧ k.statics = some a ∧ H[a]? = some cell ∧ cell.vm.isStatics = true ∧ cell.cls = c ∧ f.slot < cell.slots.size ∧ k.staticTypes[f.slot]? = some f.type ∧ ¬ A a
theorem vx_L.moved {C n d : String} {A : Nat → Prop} {u U : State} {H : Heap} (hvm : u.vm.Alike U.vm) (h : vx_L C n d A u H) : vx_L C n d A U H := by
  obtain ⟨c, k, i, f, a, cell, h1, h2, h3, h4, h5, h6, h7, h8, h9, h10⟩ := h
  obtain ⟨k', hi', he⟩ := State.fieldFound?_setVm hvm h2
  exact ⟨c, k', i, f, a, cell, by rw [hvm.findClass]; exact h1, hi', h3, by rw [he]; exact h4, h5, h6, h7, h8, by rw [he]; exact h9, h10⟩
theorem vx_L.kept {C n d : String} {A : Nat → Prop} {U : State} {H H1 : Heap} (h : vx_L C n d A U H) (hq : ∀ a : Nat, a < H.size → ¬ A a → H1[a]? = H[a]?) : vx_L C n d A U H1 := by
  obtain ⟨c, k, i, f, a, cell, h1, h2, h3, h4, h5, h6, h7, h8, h9, h10⟩ := h
  exact ⟨c, k, i, f, a, cell, h1, h2, h3, h4, by rw [hq a (Array.getElem?_eq_some_iff.mp h5).1 h10]; exact h5, h6, h7, h8, h9, h10⟩
theorem vx_L.narrow {C n d : String} {A B : Nat → Prop} {U : State} {H : Heap} (h : vx_L C n d A U H) (hAB : ∀ q, B q → A q) : vx_L C n d B U H := by
  obtain ⟨c, k, i, f, a, cell, h1, h2, h3, h4, h5, h6, h7, h8, h9, h10⟩ := h
  exact ⟨c, k, i, f, a, cell, h1, h2, h3, h4, h5, h6, h7, h8, h9, fun z => h10 (hAB _ z)⟩
theorem vx_L.word {C n d : String} {A : Nat → Prop} {s : State} {args : Array Value} (h : vx_L C n d A s s.heap) : (Cond.laysStatic C n d).before args s = true := by
  obtain ⟨c, k, i, f, a, cell, h1, h2, h3, h4, h5, h6, h7, h8, h9, -⟩ := h
  show (Cond.laysStatic C n d).holds args s none s [] = true
  exact Cond.laysStatic_of h1 h2 h3 h4 h5 h6 h7 h8 h9
/-- .. and what it holds: null or some reference -/
def vx_Zq (C n d : String) (A : Nat → Prop) (U : State) (H : Heap) : Prop := va_Zq C n d A U H ∧ vx_L C n d A U H
theorem vx_Zq.moved {C n d : String} {A : Nat → Prop} {u U : State} {H : Heap} (hvm : u.vm.Alike U.vm) (h : vx_Zq C n d A u H) : vx_Zq C n d A U H := ⟨va_Zq.moved hvm h.1, vx_L.moved hvm h.2⟩
theorem vx_Zq.kept {C n d : String} {A : Nat → Prop} {U : State} {H H1 : Heap} (h : vx_Zq C n d A U H) (hq : ∀ a : Nat, a < H.size → ¬ A a → H1[a]? = H[a]?) : vx_Zq C n d A U H1 := ⟨va_Zq.kept h.1 hq, vx_L.kept h.2 hq⟩
theorem vx_Zq.narrow {C n d : String} {A B : Nat → Prop} {U : State} {H : Heap} (h : vx_Zq C n d A U H) (hAB : ∀ q, B q → A q) : vx_Zq C n d B U H := ⟨va_Zq.narrow h.1 hAB, vx_L.narrow h.2 hAB⟩
theorem vx_Zqof {args : Array Value} {s : State} {C n d : String} {A : Nat → Prop} (hl : (Cond.laysStatic C n d).before args s = true) (hini : (Cond.initialized C).before args s = true) (h : (Cond.isRef (.static C n d)).before args s = true) (hA : ∀ a : Nat, a < s.heap.size → ¬ A a) : vx_Zq C n d A s s.heap := by
  refine ⟨va_Zqof hl hini h hA, ?_⟩
  obtain ⟨c, k, i, f, a, cell, h1, h2, h3, h4, h5, h6, h7, h8, h9⟩ := Cond.laysStatic_spec hl
  exact ⟨c, k, i, f, a, cell, h1, h2, h3, h4, h5, h6, h7, h8, h9, hA a (Array.getElem?_eq_some_iff.mp h5).1⟩
theorem vx_isRef {C n d : String} {v : Value} {A : Nat → Prop} {s : State} {args : Array Value} (h : va_Z C n d v A s s.heap) (hv : v.isRef = true) : (Cond.isRef (.static C n d)).before args s = true := by
  obtain ⟨cf, kf, fi, f, a, cell, h1, h2, h3, h4, h5, h6, h7, -⟩ := h
  have he : (Term.static C n d).eval args s none [] s = some v := by
    simp [Term.eval, State.fieldNamed?, h1, h2, h4, h5, h6, h7]
  simp only [Cond.before, Cond.holds, Cond.value, he]
  cases v <;> simp_all [Value.isRef]
theorem vx_isRefq {C n d : String} {A : Nat → Prop} {s : State} {args : Array Value} (h : va_Zq C n d A s s.heap) : (Cond.isRef (.static C n d)).before args s = true := by
  rcases h with h | ⟨t, h⟩
  · exact vx_isRef h rfl
  · exact vx_isRef h rfl
/-- the same frame, seen from here: as if the method were called anew in this heap -/
theorem vx_rebase {T : State} (X : Stand p l e R s m args below meth c T locs cells slots) {R' : Room} (hf : R'.frames ≤ R.frames) (hl : R'.locals ≤ R.locals) (hc : cells + R'.cells ≤ R.cells) (hs : slots + R'.slots ≤ R.slots) :
    Stand p l e R' ((T.setVm s.vm).setFrames (.invoking m args :: below)) m args below meth c T [] 0 0 := by
  have htop : (T.setVm s.vm).topJava?.isSome := X.here.top
  have hF : ((T.setVm s.vm).setFrames (.invoking m args :: below)).frames = .invoking m args :: below := State.frames_setFrames _ (State.cur_lt_of_top htop)
  obtain ⟨g₀, hg0⟩ := Option.isSome_iff_exists.mp htop
  obtain ⟨r, hr⟩ := State.topJava?_eq_some.mp hg0
  have hl9 : e.platform.stackLimits (T.setVm s.vm).me = e.platform.stackLimits s.me := X.limits
  have hb9 : (T.setVm s.vm).me.stackBytes = s.me.stackBytes := X.bytes
  refine ⟨X.admits, X.cas, X.clock, hF, ?_, X.hears, X.method, X.code, X.here, X.tail, X.warmed, ?_, ?_, ?_⟩
  · have h := X.room
    have hU : ((T.setVm s.vm).setFrames (.invoking m args :: below)).localsInUse = s.localsInUse := by
      rw [State.localsInUse_invoking hF (meth := meth) (c := c) X.method X.code, State.localsInUse_invoking X.frames X.method X.code]
    simp only [State.hasRoom, Bool.and_eq_true, decide_eq_true_eq] at h ⊢
    obtain ⟨⟨⟨⟨h1, h2, h3, h4, h5, h6⟩, h7⟩, h8⟩, h9⟩ := h
    rw [X.frames, List.length_cons] at h2 h3
    have q1 := X.heapSize
    have q2 := X.used
    simp only [hF, hU, List.length_cons, State.stackLimits_setFrames, State.stackBytes_setFrames, hl9, hb9]
    refine ⟨⟨⟨⟨by omega, by omega, by omega, by omega, by omega, h6⟩, ?_⟩, ?_⟩, X.book⟩
    · show T.heap.size + R'.cells ≤ e.platform.maxCells
      omega
    · show T.slotsUsed + R'.slots ≤ e.platform.maxSlots
      omega
  · rw [State.stackLimits_setFrames]; rfl
  · rw [State.stackBytes_setFrames]; rfl
  · refine ⟨?_, Nat.le_refl _, Nat.le_refl _, ?_, ?_, fun a c9 h9 => ⟨c9, h9, rfl, rfl, fun _ _ => rfl⟩⟩
    · obtain ⟨t, ht, -⟩ := State.frames_cons hr
      show T.setVm s.vm = { ((T.setVm s.vm).setFrames (.invoking m args :: below)).setFrames (T.setVm s.vm).frames with heap := T.heap, slotsUsed := T.slotsUsed }
      rw [State.setFrames_setFrames, State.setFrames_self ht]
      rfl
    · show T.slotsUsed = T.slotsUsed + ((T.heap.toList.drop T.heap.size).map (·.slots.size)).sum
      rw [List.drop_eq_nil_of_le (Nat.le_of_eq Array.length_toList)]
      rfl
    · show ((T.heap.toList.drop T.heap.size).map (·.slots.size)).sum ≤ 0
      rw [List.drop_eq_nil_of_le (Nat.le_of_eq Array.length_toList)]
      exact Nat.le_refl _
/-- 'throw new E()': new; dup; invokespecial; athrow -/
theorem vx_throw0 {cc : ByteArray} {pc : Nat} (hexec : p.tables.exec = Jvm.exec) (hb : c.code = cc) (hl : l.stackTraces = false) {own cls : String} {names : List String} {ik ic mc ms : Nat} {A : Nat → Prop}
    (hown : s.vm.findClass own = some m.cls) (hcls : Bundle.fit cls = true) (hnames : ∀ n ∈ names, Bundle.fit n = true)
    (hk : (Cond.classLink own ik cls).before args s = true) (hini : (Cond.initialized cls).before args s = true) (hat : ∀ w ∈ vx_at0 own ic cls names, w.before args s = true)
    (hgood : ∀ w ∈ Cond.classLink own ik cls :: Cond.initialized cls :: vx_at0 own ic cls names, vx_ot w = true)
    (hU : vx_Zq Bundle.tN "UNASSIGNED_STACK" Bundle.steD A s s.heap) (hN : vx_Zq Bundle.tN "SUPPRESSED_SENTINEL" Bundle.listD A s s.heap) (hS : va_S A s.heap H locs) (hsize : ls.size = c.maxLocals)
    (d0 : decode cc pc = .ok (.new ik, 3)) (d3 : decode cc (pc + 3) = .ok (.dup, 1)) (d4 : decode cc (pc + 4) = .ok (.invokespecial ic, 3)) (d7 : decode cc (pc + 7) = .ok (.athrow, 1))
    (hout : ∀ x ∈ c.exceptionTable.toList, covers x (pc + 7) = false)
    (hRframes : names.length + 3 < R.frames) (hRlocals : (rest.map fun v => v.category).sum + (13 * (names.length + 1) + 42) ≤ R.locals) (hRcells : cells + 1 ≤ R.cells) (hRslots : slots + 6 ≤ R.slots) (hlocks : meth.locks = false)
    (hx : ∀ t : State, s.vm.Alike t.vm → H.size ≤ t.heap.size → (∀ q : Nat, q < H.size → t.heap[q]? = H[q]?) → XC cls s t)
    (hf : ∀ z ∈ locs, free z.base) (hc : cells + 1 ≤ mc) (hs : slots + 6 ≤ ms) :
    W p l e R s m args below meth c H locs cells slots (vx_MQ below Qc XC args s mc ms free) (F0 m pc ls rest) := by
  intro T hT X
  have htr : e.platform.stackTraces = false := (show e.platform.stackTraces = l.stackTraces by rw [X.admits.platform]).trans hl
  have Y := vx_rebase X (R' := { frames := R.frames, locals := R.locals, cells := 1, slots := 6 }) (Nat.le_refl _) (Nat.le_refl _) hRcells hRslots
  obtain ⟨s', hA⟩ : ∃ z, z = (T.setVm s.vm).setFrames (.invoking m args :: below) := ⟨_, rfl⟩
  rw [← hA] at Y
  have hvm : s'.vm = s.vm := by rw [hA]; rfl
  have hhp : s'.heap = H := by rw [hA]; exact hT
  have hW0 : s.WarmedH s'.vm := by rw [hvm]; exact State.WarmedH.refl s
  have hat' : ∀ w ∈ vx_at0 own ic cls names, w.before args s' = true := fun w hw => vx_ot_at hW0 hvm.symm (hgood w (List.mem_cons_of_mem _ (List.mem_cons_of_mem _ hw))) (hat w hw)
  have hk' : (Cond.classLink own ik cls).before args s' = true := vx_ot_at hW0 hvm.symm (hgood _ List.mem_cons_self) hk
  have hini' : (Cond.initialized cls).before args s' = true := vx_ot_at hW0 hvm.symm (hgood _ (List.mem_cons_of_mem _ List.mem_cons_self)) hini
  have hU' : vx_Zq Bundle.tN "UNASSIGNED_STACK" Bundle.steD A s' s'.heap := by rw [hhp]; exact vx_Zq.moved hW0.alike (hU.kept hS.2.1)
  have hN' : vx_Zq Bundle.tN "SUPPRESSED_SENTINEL" Bundle.listD A s' s'.heap := by rw [hhp]; exact vx_Zq.moved hW0.alike (hN.kept hS.2.1)
  have h : ∀ w ∈ Bundle.ownAtoms0 own ic cls names, w.before args s' = true := vx_own hat' (vx_isRefq hU'.1) (vx_isRefq hN'.1) hU'.2.word hN'.2.word
  have hown' : s'.vm.findClass own = some m.cls := by rw [hvm]; exact hown
  have hins : (Cond.instantiable cls 6).before args s' = true := h _ (by simp [Bundle.ownAtoms0])
  obtain ⟨vm₁, cX, kX, hfX, hkX, -, -, X₁, st1⟩ := Y.newCold hexec (own := own) (C := cls) (index := ik) (n := 6) hown' hk' hins hini'
    (g := F0 m pc ls rest) rfl (by rw [hb]; exact d0) (Nat.le_refl _) (Nat.le_refl _)
  generalize hT1 : (T.setVm vm₁).pushCell { cls := cX, slots := kX.instanceTypes.map defaultValue, vm := .none } = T1 at X₁ st1
  have hcat : (Value.ref T.heap.size).category = 1 := rfl
  have hcellA : T1.heap[T.heap.size]? = some (freshCell cX kX) := by rw [← hT1]; exact State.heap_pushCell_size _ _
  have d3' : decode c.code (pc + 3) = .ok (.dup, 1) := by rw [hb]; exact d3
  obtain ⟨U, hsteps, hrun, hend, hW, hsame, ce, hce, hO⟩ := X₁.ctorThrow0 hexec htr (own := own) (cls := cls) (names := names) (ic := ic) hown' hcls hnames h (fun x hx => nomatch hx) hfX hkX hcellA (by rw [hhp, hT]; exact Nat.le_refl _)
    (g := { method := m, pc := pc + 4, locals := ls, stack := .ref T.heap.size :: .ref T.heap.size :: rest, locked := none }) rfl hsize rfl rfl (rest := rest) rfl
    (by rw [hb]; exact d4) (by rw [hb]; exact d7) hout hRframes (by simp only [List.map_cons, List.sum_cons, hcat]; omega) hlocks
  obtain ⟨f1, f2⟩ := vx_frame hsame
  rw [hhp] at f1 f2
  have hWs : s.WarmedH U.vm := State.WarmedH.trans hW0 hW
  have hcl : s.vm.findClass cls = some ce.cls := by
    have h9 := hO.cls
    rw [hvm] at h9
    exact h9
  have hall : s.sameButNew ({ U with vm := s.vm } : State) locs mc ms := by
    subst hA
    obtain ⟨e1, e2⟩ := hsame
    rw [State.setFrames_setFrames] at e1
    have h2 : (T.setVm s.vm).sameButNew ({ U with vm := s.vm } : State) [] (0 + 1) (0 + 6) := ⟨e1, e2⟩
    have h3 := X.same.trans h2
    rw [List.append_nil] at h3
    exact h3.mono hc hs
  refine ⟨U, ?_, .threw T.heap.size, hrun, hend, Or.inr ⟨T.heap.size, rfl, cls, ce, locs, hx U hWs.alike f1 (fun q hq => f2 q hq (fun z hz => nomatch hz)), hce, hO.vm, hcl, hWs, hall, hf⟩⟩
  refine st1 _ ?_
  show Steps p.tables e below (T1.setTop { method := m, pc := pc + 3, locals := ls, stack := .ref T.heap.size :: rest, locked := none }) _
  jvm_step X₁.here [X₁.here.top, hexec, d3', Value.category]
  exact hsteps
/-- 'throw new E("text")': new; dup; ldc; invokespecial; athrow -/
theorem vx_throwS {cc : ByteArray} {pc : Nat} (hexec : p.tables.exec = Jvm.exec) (hb : c.code = cc) (hl : l.stackTraces = false) {own cls text : String} {names : List String} {ik is ic mc ms sa : Nat} {A : Nat → Prop}
    (hown : s.vm.findClass own = some m.cls) (hcls : Bundle.fit cls = true) (hnames : ∀ n ∈ names, Bundle.fit n = true)
    (hk : (Cond.classLink own ik cls).before args s = true) (hini : (Cond.initialized cls).before args s = true) (hstr : vk_R own is text sa s) (hat : ∀ w ∈ vx_atS own ic cls names, w.before args s = true)
    (hgood : ∀ w ∈ Cond.classLink own ik cls :: Cond.initialized cls :: vx_atS own ic cls names, vx_ot w = true)
    (hU : vx_Zq Bundle.tN "UNASSIGNED_STACK" Bundle.steD A s s.heap) (hN : vx_Zq Bundle.tN "SUPPRESSED_SENTINEL" Bundle.listD A s s.heap) (hS : va_S A s.heap H locs) (hsize : ls.size = c.maxLocals)
    (d0 : decode cc pc = .ok (.new ik, 3)) (d3 : decode cc (pc + 3) = .ok (.dup, 1)) (d4 : decode cc (pc + 4) = .ok (.ldc is, 2)) (d6 : decode cc (pc + 6) = .ok (.invokespecial ic, 3)) (d9 : decode cc (pc + 9) = .ok (.athrow, 1))
    (hout : ∀ x ∈ c.exceptionTable.toList, covers x (pc + 9) = false)
    (hRframes : names.length + 3 < R.frames) (hRlocals : (rest.map fun v => v.category).sum + (13 * (names.length + 1) + 43) ≤ R.locals) (hRcells : cells + 1 ≤ R.cells) (hRslots : slots + 6 ≤ R.slots) (hlocks : meth.locks = false)
    (hx : ∀ t : State, s.vm.Alike t.vm → H.size ≤ t.heap.size → (∀ q : Nat, q < H.size → t.heap[q]? = H[q]?) → XC cls s t)
    (hf : ∀ z ∈ locs, free z.base) (hc : cells + 1 ≤ mc) (hs : slots + 6 ≤ ms) :
    W p l e R s m args below meth c H locs cells slots (vx_MQ below Qc XC args s mc ms free) (F0 m pc ls rest) := by
  intro T hT X
  have htr : e.platform.stackTraces = false := (show e.platform.stackTraces = l.stackTraces by rw [X.admits.platform]).trans hl
  have Y := vx_rebase X (R' := { frames := R.frames, locals := R.locals, cells := 1, slots := 6 }) (Nat.le_refl _) (Nat.le_refl _) hRcells hRslots
  obtain ⟨s', hA⟩ : ∃ z, z = (T.setVm s.vm).setFrames (.invoking m args :: below) := ⟨_, rfl⟩
  rw [← hA] at Y
  have hvm : s'.vm = s.vm := by rw [hA]; rfl
  have hhp : s'.heap = H := by rw [hA]; exact hT
  have hW0 : s.WarmedH s'.vm := by rw [hvm]; exact State.WarmedH.refl s
  have hat' : ∀ w ∈ vx_atS own ic cls names, w.before args s' = true := fun w hw => vx_ot_at hW0 hvm.symm (hgood w (List.mem_cons_of_mem _ (List.mem_cons_of_mem _ hw))) (hat w hw)
  have hk' : (Cond.classLink own ik cls).before args s' = true := vx_ot_at hW0 hvm.symm (hgood _ List.mem_cons_self) hk
  have hini' : (Cond.initialized cls).before args s' = true := vx_ot_at hW0 hvm.symm (hgood _ (List.mem_cons_of_mem _ List.mem_cons_self)) hini
  have hU' : vx_Zq Bundle.tN "UNASSIGNED_STACK" Bundle.steD A s' s'.heap := by rw [hhp]; exact vx_Zq.moved hW0.alike (hU.kept hS.2.1)
  have hN' : vx_Zq Bundle.tN "SUPPRESSED_SENTINEL" Bundle.listD A s' s'.heap := by rw [hhp]; exact vx_Zq.moved hW0.alike (hN.kept hS.2.1)
  have h : ∀ w ∈ Bundle.ownAtoms own ic cls names, w.before args s' = true := vx_own hat' (vx_isRefq hU'.1) (vx_isRefq hN'.1) hU'.2.word hN'.2.word
  have hown' : s'.vm.findClass own = some m.cls := by rw [hvm]; exact hown
  have hins : (Cond.instantiable cls 6).before args s' = true := h _ (by simp [Bundle.ownAtoms])
  obtain ⟨vm₁, cX, kX, hfX, hkX, -, -, X₁, st1⟩ := Y.newCold hexec (own := own) (C := cls) (index := ik) (n := 6) hown' hk' hins hini'
    (g := F0 m pc ls rest) rfl (by rw [hb]; exact d0) (Nat.le_refl _) (Nat.le_refl _)
  generalize hT1 : (T.setVm vm₁).pushCell { cls := cX, slots := kX.instanceTypes.map defaultValue, vm := .none } = T1 at X₁ st1
  have hcat : (Value.ref T.heap.size).category = 1 := rfl
  have hcellA : T1.heap[T.heap.size]? = some (freshCell cX kX) := by rw [← hT1]; exact State.heap_pushCell_size _ _
  have d3' : decode c.code (pc + 3) = .ok (.dup, 1) := by rw [hb]; exact d3
  have d4' : decode c.code (pc + 4) = .ok (.ldc is, 2) := by rw [hb]; exact d4
  have hstr' : vk_R own is text sa s' := vk_R.warm hW0 hstr
  obtain ⟨U, hsteps, hrun, hend, hW, hsame, ce, hce, hO⟩ := X₁.ctorThrowS hexec htr (own := own) (cls := cls) (names := names) (ic := ic) hown' hcls hnames h (fun x hx => nomatch hx) hfX hkX hcellA (by rw [hhp, hT]; exact Nat.le_refl _) (msg := .ref sa) rfl
    (g := { method := m, pc := pc + 6, locals := ls, stack := .ref sa :: .ref T.heap.size :: .ref T.heap.size :: rest, locked := none }) rfl hsize rfl rfl (rest := rest) rfl
    (by rw [hb]; exact d6) (by rw [hb]; exact d9) hout hRframes (by simp only [List.map_cons, List.sum_cons, hcat]; omega) hlocks
  obtain ⟨f1, f2⟩ := vx_frame hsame
  rw [hhp] at f1 f2
  have hWs : s.WarmedH U.vm := State.WarmedH.trans hW0 hW
  have hcl : s.vm.findClass cls = some ce.cls := by
    have h9 := hO.cls
    rw [hvm] at h9
    exact h9
  have hall : s.sameButNew ({ U with vm := s.vm } : State) locs mc ms := by
    subst hA
    obtain ⟨e1, e2⟩ := hsame
    rw [State.setFrames_setFrames] at e1
    have h2 : (T.setVm s.vm).sameButNew ({ U with vm := s.vm } : State) [] (0 + 1) (0 + 6) := ⟨e1, e2⟩
    have h3 := X.same.trans h2
    rw [List.append_nil] at h3
    exact h3.mono hc hs
  refine ⟨U, ?_, .threw T.heap.size, hrun, hend, Or.inr ⟨T.heap.size, rfl, cls, ce, locs, hx U hWs.alike f1 (fun q hq => f2 q hq (fun z hz => nomatch hz)), hce, hO.vm, hcl, hWs, hall, hf⟩⟩
  refine st1 _ ?_
  show Steps p.tables e below (T1.setTop { method := m, pc := pc + 3, locals := ls, stack := .ref T.heap.size :: rest, locked := none }) _
  jvm_step X₁.here [X₁.here.top, hexec, d3', Value.category]
  exact X₁.ldcString hexec (own := own) (text := text) (index := is) (a := sa) hown' hstr'.1 hstr'.2
    (g := { method := m, pc := pc + 4, locals := ls, stack := .ref T.heap.size :: .ref T.heap.size :: rest, locked := none }) rfl d4' _ hsteps
/-- 'throw new E("text")', the text by a wide index -/
theorem vx_throwSW {cc : ByteArray} {pc : Nat} (hexec : p.tables.exec = Jvm.exec) (hb : c.code = cc) (hl : l.stackTraces = false) {own cls text : String} {names : List String} {ik is ic mc ms sa : Nat} {A : Nat → Prop}
    (hown : s.vm.findClass own = some m.cls) (hcls : Bundle.fit cls = true) (hnames : ∀ n ∈ names, Bundle.fit n = true)
    (hk : (Cond.classLink own ik cls).before args s = true) (hini : (Cond.initialized cls).before args s = true) (hstr : vk_R own is text sa s) (hat : ∀ w ∈ vx_atS own ic cls names, w.before args s = true)
    (hgood : ∀ w ∈ Cond.classLink own ik cls :: Cond.initialized cls :: vx_atS own ic cls names, vx_ot w = true)
    (hU : vx_Zq Bundle.tN "UNASSIGNED_STACK" Bundle.steD A s s.heap) (hN : vx_Zq Bundle.tN "SUPPRESSED_SENTINEL" Bundle.listD A s s.heap) (hS : va_S A s.heap H locs) (hsize : ls.size = c.maxLocals)
    (d0 : decode cc pc = .ok (.new ik, 3)) (d3 : decode cc (pc + 3) = .ok (.dup, 1)) (d4 : decode cc (pc + 4) = .ok (.ldc_w is, 3)) (d7 : decode cc (pc + 7) = .ok (.invokespecial ic, 3)) (d10 : decode cc (pc + 10) = .ok (.athrow, 1))
    (hout : ∀ x ∈ c.exceptionTable.toList, covers x (pc + 10) = false)
    (hRframes : names.length + 3 < R.frames) (hRlocals : (rest.map fun v => v.category).sum + (13 * (names.length + 1) + 43) ≤ R.locals) (hRcells : cells + 1 ≤ R.cells) (hRslots : slots + 6 ≤ R.slots) (hlocks : meth.locks = false)
    (hx : ∀ t : State, s.vm.Alike t.vm → H.size ≤ t.heap.size → (∀ q : Nat, q < H.size → t.heap[q]? = H[q]?) → XC cls s t)
    (hf : ∀ z ∈ locs, free z.base) (hc : cells + 1 ≤ mc) (hs : slots + 6 ≤ ms) :
    W p l e R s m args below meth c H locs cells slots (vx_MQ below Qc XC args s mc ms free) (F0 m pc ls rest) := by
  intro T hT X
  have htr : e.platform.stackTraces = false := (show e.platform.stackTraces = l.stackTraces by rw [X.admits.platform]).trans hl
  have Y := vx_rebase X (R' := { frames := R.frames, locals := R.locals, cells := 1, slots := 6 }) (Nat.le_refl _) (Nat.le_refl _) hRcells hRslots
  obtain ⟨s', hA⟩ : ∃ z, z = (T.setVm s.vm).setFrames (.invoking m args :: below) := ⟨_, rfl⟩
  rw [← hA] at Y
  have hvm : s'.vm = s.vm := by rw [hA]; rfl
  have hhp : s'.heap = H := by rw [hA]; exact hT
  have hW0 : s.WarmedH s'.vm := by rw [hvm]; exact State.WarmedH.refl s
  have hat' : ∀ w ∈ vx_atS own ic cls names, w.before args s' = true := fun w hw => vx_ot_at hW0 hvm.symm (hgood w (List.mem_cons_of_mem _ (List.mem_cons_of_mem _ hw))) (hat w hw)
  have hk' : (Cond.classLink own ik cls).before args s' = true := vx_ot_at hW0 hvm.symm (hgood _ List.mem_cons_self) hk
  have hini' : (Cond.initialized cls).before args s' = true := vx_ot_at hW0 hvm.symm (hgood _ (List.mem_cons_of_mem _ List.mem_cons_self)) hini
  have hU' : vx_Zq Bundle.tN "UNASSIGNED_STACK" Bundle.steD A s' s'.heap := by rw [hhp]; exact vx_Zq.moved hW0.alike (hU.kept hS.2.1)
  have hN' : vx_Zq Bundle.tN "SUPPRESSED_SENTINEL" Bundle.listD A s' s'.heap := by rw [hhp]; exact vx_Zq.moved hW0.alike (hN.kept hS.2.1)
  have h : ∀ w ∈ Bundle.ownAtoms own ic cls names, w.before args s' = true := vx_own hat' (vx_isRefq hU'.1) (vx_isRefq hN'.1) hU'.2.word hN'.2.word
  have hown' : s'.vm.findClass own = some m.cls := by rw [hvm]; exact hown
  have hins : (Cond.instantiable cls 6).before args s' = true := h _ (by simp [Bundle.ownAtoms])
  obtain ⟨vm₁, cX, kX, hfX, hkX, -, -, X₁, st1⟩ := Y.newCold hexec (own := own) (C := cls) (index := ik) (n := 6) hown' hk' hins hini'
    (g := F0 m pc ls rest) rfl (by rw [hb]; exact d0) (Nat.le_refl _) (Nat.le_refl _)
  generalize hT1 : (T.setVm vm₁).pushCell { cls := cX, slots := kX.instanceTypes.map defaultValue, vm := .none } = T1 at X₁ st1
  have hcat : (Value.ref T.heap.size).category = 1 := rfl
  have hcellA : T1.heap[T.heap.size]? = some (freshCell cX kX) := by rw [← hT1]; exact State.heap_pushCell_size _ _
  have d3' : decode c.code (pc + 3) = .ok (.dup, 1) := by rw [hb]; exact d3
  have d4' : decode c.code (pc + 4) = .ok (.ldc_w is, 3) := by rw [hb]; exact d4
  have hstr' : vk_R own is text sa s' := vk_R.warm hW0 hstr
  obtain ⟨U, hsteps, hrun, hend, hW, hsame, ce, hce, hO⟩ := X₁.ctorThrowS hexec htr (own := own) (cls := cls) (names := names) (ic := ic) hown' hcls hnames h (fun x hx => nomatch hx) hfX hkX hcellA (by rw [hhp, hT]; exact Nat.le_refl _) (msg := .ref sa) rfl
    (g := { method := m, pc := pc + 7, locals := ls, stack := .ref sa :: .ref T.heap.size :: .ref T.heap.size :: rest, locked := none }) rfl hsize rfl rfl (rest := rest) rfl
    (by rw [hb]; exact d7) (by rw [hb]; exact d10) hout hRframes (by simp only [List.map_cons, List.sum_cons, hcat]; omega) hlocks
  obtain ⟨f1, f2⟩ := vx_frame hsame
  rw [hhp] at f1 f2
  have hWs : s.WarmedH U.vm := State.WarmedH.trans hW0 hW
  have hcl : s.vm.findClass cls = some ce.cls := by
    have h9 := hO.cls
    rw [hvm] at h9
    exact h9
  have hall : s.sameButNew ({ U with vm := s.vm } : State) locs mc ms := by
    subst hA
    obtain ⟨e1, e2⟩ := hsame
    rw [State.setFrames_setFrames] at e1
    have h2 : (T.setVm s.vm).sameButNew ({ U with vm := s.vm } : State) [] (0 + 1) (0 + 6) := ⟨e1, e2⟩
    have h3 := X.same.trans h2
    rw [List.append_nil] at h3
    exact h3.mono hc hs
  refine ⟨U, ?_, .threw T.heap.size, hrun, hend, Or.inr ⟨T.heap.size, rfl, cls, ce, locs, hx U hWs.alike f1 (fun q hq => f2 q hq (fun z hz => nomatch hz)), hce, hO.vm, hcl, hWs, hall, hf⟩⟩
  refine st1 _ ?_
  show Steps p.tables e below (T1.setTop { method := m, pc := pc + 3, locals := ls, stack := .ref T.heap.size :: rest, locked := none }) _
  jvm_step X₁.here [X₁.here.top, hexec, d3', Value.category]
  exact X₁.ldcStringW hexec (own := own) (text := text) (index := is) (a := sa) hown' hstr'.1 hstr'.2
    (g := { method := m, pc := pc + 4, locals := ls, stack := .ref T.heap.size :: .ref T.heap.size :: rest, locked := none }) rfl d4' _ hsteps
end Ends
section Bodies
variable {l : Launch}
theorem vx_ofW {y : MethodName} {ws ws' : List Cond} {rm : Room} {Pc : Array Value → State → Prop} {Qc : Array Value → State → Outcome → State → Prop} {XC : String → State → State → Prop} {mc ms : Nat} {free : Addr → Prop} {cc : ByteArray} {maxL : Nat} {ret : Option FieldType}
    (hy : plainName y.cls = true) (hw : ws = Cond.code y cc maxL ret :: ws')
    (body : ∀ p e s m args below meth c s₁, BodyLoose p l y (headSpec ws rm) cc maxL ret e s m args below meth c s₁ → c.maxLocals = maxL → (∀ x ∈ c.exceptionTable.toList, False) → Pc args s →
      W p l e (headSpec ws rm).room s m args below meth c s.heap [] 0 0 (vx_MQ below Qc XC args s mc ms free) (entryFrame m args maxL)) : vx_Met l y ws rm Pc Qc XC mc ms free := by
  refine MetFree.of_bodyS (code := cc) (maxLocals := maxL) (ret := ret) hy ?_ ?_
  · intro args s m h hn
    obtain ⟨meth, c, h1, h2, h3, h4, h5, h6, -, -⟩ := Cond.code_spec hn (atoms_spec (ws := ws) h _ (by rw [hw]; exact List.mem_cons_self))
    exact ⟨meth, c, h1, h2, h3, h4, h5, h6⟩
  · intro p e s m args below meth c s₁ B hml hP _
    have hh0 : s₁.heap = s.heap := by rw [B.state]; rfl
    have ht : ∀ x ∈ c.exceptionTable.toList, False := by
      obtain ⟨meth9, c9, h1, h2, -, -, -, -, h7, -⟩ := Cond.code_spec B.named (atoms_spec (ws := ws) B.pre _ (by rw [hw]; exact List.mem_cons_self))
      cases Option.some.inj (h1.symm.trans B.method)
      cases Option.some.inj (h2.symm.trans (Stand.of_body B).code)
      intro x hx
      rw [Array.isEmpty_iff.mp h7] at hx
      cases hx
    obtain ⟨t, a1, o, b1, b2, b3⟩ := body p e s m args below meth c s₁ B hml ht hP s₁ hh0 (Stand.of_body B)
    exact ⟨t, o, a1, b1, b2, b3⟩
/-- the table of a body with handlers -/
theorem vx_table {p : Program} {x y : MethodName} {S : Spec} {cc bytes : ByteArray} {maxL maxL' : Nat} {ret ret' : Option FieldType} {e : Env} {s s₁ : State} {m : MethodId} {args : Array Value} {below : List Frame} {meth : Method} {c : Code} {hh : List (Nat × Nat × Nat × Nat)}
    (B : BodyLoose p l y S cc maxL ret e s m args below meth c s₁) (h : (Cond.codeWith y bytes maxL' ret' hh).before args s = true) : c.exceptionTable.toList = tableOf hh := by
  obtain ⟨m9, meth9, c9, hn9, h1, h2, -, -, h6, -⟩ := Cond.codeWith_spec h
  cases Option.some.inj (hn9.symm.trans B.named)
  cases Option.some.inj (h1.symm.trans B.method)
  cases Option.some.inj (h2.symm.trans (Stand.of_body B).code)
  rw [← h6, table_eq]
end Bodies
end VXA
/-! ===== END ===== -/
/-! ===== BEGIN a static call of a method with an exception table ===== -/
section VXS
variable {p : Program} {l : Launch} {e : Env} {R : Room} {s : State} {m : MethodId} {args : Array Value} {below : List Frame} {meth : Method} {c : Code} {T : State} {H : Heap} {locs : List Loc} {cells slots : Nat}
abbrev vx_CSW (R : Room) (s : State) (args : Array Value) (own : String) (index : Nat) (y : MethodName) (bytes : ByteArray) (maxL : Nat) (ret : Option FieldType) (hh : List (Nat × Nat × Nat × Nat)) (ws : List Cond) (rm : Room) (mc ms n : Nat) : Prop :=
  (rm.cells = mc ∧ rm.slots = ms ∧ rm.frames + 1 ≤ R.frames ∧ 8 + (maxL + 11) + rm.locals ≤ R.locals ∧ (∀ w ∈ ws, ∀ (a' : Array Value) (U : State), s.WarmedH U.vm → w.before a' U = true) ∧ Cond.codeWith y bytes maxL ret hh ∈ ws) ∧
  (Cond.codeWith y bytes maxL ret hh).before args s = true ∧ (Cond.initialized y.cls).before args s = true ∧ (y.cls ≠ "java/lang/invoke/MethodHandle" ∧ y.cls ≠ "java/lang/invoke/VarHandle") ∧
  (∀ sig, parseMethodDescriptor y.desc = some sig → n = sig.parameters.length) ∧ (Cond.methodLink own index y).before args s = true ∧ (Cond.static y).before args s = true
theorem vx_cwSW {own : String} {index maxL mc ms : Nat} {y : MethodName} {bytes : ByteArray} {ret : Option FieldType} {hh : List (Nat × Nat × Nat × Nat)} {Ts ws ws' : List Cond} {rm : Room} (n : Nat) (ht : ∀ w ∈ Ts, w.before args s = true) (hT : GoodIn Ts (va_wsS own index y ws)) (hw : ws = Cond.codeWith y bytes maxL ret hh :: ws') (hrc : rm.cells = mc) (hrs : rm.slots = ms)
    (hd : y.cls ≠ "java/lang/invoke/MethodHandle" ∧ y.cls ≠ "java/lang/invoke/VarHandle" ∧ (parseMethodDescriptor y.desc).map (fun d => d.parameters.length) = some n) (hR : rm.frames + 1 ≤ R.frames ∧ 8 + (maxL + 11) + rm.locals ≤ R.locals) :
    vx_CSW R s args own index y bytes maxL ret hh ws rm mc ms n := by
  have ok : ∀ w ∈ va_wsS own index y ws, w.before args s = true := fun w h => ht w (hT w h).1
  have hG : GoodIn Ts ws := fun w h => hT w (by unfold va_wsS; exact List.mem_append_right _ h)
  have hc : Cond.codeWith y bytes maxL ret hh ∈ ws := by rw [hw]; exact List.mem_cons_self
  refine ⟨⟨hrc, hrs, hR.1, hR.2, pay_in ht hG, hc⟩, ht _ (hG _ hc).1, ok _ (by simp [va_wsS]), ⟨hd.1, hd.2.1⟩, fun sig h => ?_, ok _ (by simp [va_wsS]), ok _ (by simp [va_wsS])⟩
  have h2 := hd.2.2
  rw [h] at h2
  exact (Option.some.inj h2).symm
theorem vx_callSW (X : Stand p l e R s m args below meth c T locs cells slots) (hexec : p.tables.exec = Jvm.exec) {own : String} {index : Nat} {y : MethodName} {bytes : ByteArray} {maxL : Nat} {ret : Option FieldType} {hh : List (Nat × Nat × Nat × Nat)}
    (hown : s.vm.findClass own = some m.cls) (hlink : (Cond.methodLink own index y).before args s = true) (hstat : (Cond.static y).before args s = true) (hinit : (Cond.initialized y.cls).before args s = true)
    (hcode : (Cond.codeWith y bytes maxL ret hh).before args s = true) (hy : y.cls ≠ "java/lang/invoke/MethodHandle" ∧ y.cls ≠ "java/lang/invoke/VarHandle")
    {W9 : Nat} {Pre : Pt → Array Value → Prop} {Post : Pt → Array Value → Option Value → Pt → Prop} (hK : Back l R p e below s args y 3 W9 Pre Post)
    {g : JFrame} (hg : g.method = m) (hsize : g.locals.size = c.maxLocals) {argsL rest : List Value} (hlen : ∀ sig, parseMethodDescriptor y.desc = some sig → argsL.length = sig.parameters.length)
    (hstack : g.stack = argsL.reverse ++ rest) (hW : 2 * g.monitorRoom + (rest.map fun v => v.category).sum ≤ W9) (hdg : decode c.code g.pc = .ok (.invokestatic index, 3))
    (hpre : ∀ vm₁, s.WarmedH vm₁ → Pre ⟨T.setVm vm₁, locs, cells, slots⟩ argsL.toArray) :
    ∃ (v : Option Value) (vm₁ : Vm) (B : Pt), s.WarmedH vm₁ ∧ Stand p l e R s m args below meth c B.U B.locs B.cells B.slots ∧ Post ⟨T.setVm vm₁, locs, cells, slots⟩ argsL.toArray v B ∧
      ∀ target, Steps p.tables e below (B.U.setTop { g with pc := g.pc + 3, stack := v.toList ++ rest }) target → Steps p.tables e below (T.setTop g) target := by
  obtain ⟨mk, methM, cM, hnamed, hmethM, -, -, -, -, -, -, hsigM⟩ := Cond.codeWith_spec hcode
  have hstatic : methM.isStatic = true := Cond.static_spec hnamed hmethM hstat
  obtain ⟨kP, hkP, -⟩ := className_of_methodNamed hnamed
  have hinitP : kP.init = .initialized := Cond.initialized_spec (findClass_of_methodNamed hnamed) hkP hinit
  obtain ⟨vm₁, X₁, hstep₁⟩ := X.invokestatic hexec hown hlink hnamed hmethM hstatic hkP hinitP hy (g := g) hg (argsL := argsL) (rest := rest) (hlen _ hsigM) hstack hdg
  obtain ⟨v, B, X', hpost, hsteps⟩ := hK m meth c ⟨T.setVm vm₁, locs, cells, slots⟩ { g with stack := rest } (.invokestatic index) mk argsL.toArray X₁ hg hsize hdg hW (X₁.named hnamed) (hpre vm₁ X₁.warmed)
  exact ⟨v, vm₁, B, X₁.warmed, X', hpost, fun target h => hstep₁ _ fun acts => by rw [doInvoke_state]; exact hsteps.trans h⟩
theorem vx_runSW {y : MethodName} {bytes cc : ByteArray} {maxL nL mc ms n index : Nat} {ret : Option FieldType} {hh : List (Nat × Nat × Nat × Nat)} {ws : List Cond} {rm : Room} {Pc : Array Value → State → Prop} {Qc : Array Value → State → Outcome → State → Prop} {free : Addr → Prop} {Ts : List Cond} {own : String} {As rest : List Value} {g : JFrame}
    (S : CallFix p m c cc nL s args Ts own) (hM : Met l y ws rm Pc Qc mc ms free) (cw : vx_CSW R s args own index y bytes maxL ret hh ws rm mc ms n) (hp : PreS s H Pc As)
    (hg : g.method = m) (hn : As.length = n) (hsize : g.locals.size = nL) (hstack : g.stack = As.reverse ++ rest) (hW : 2 * g.monitorRoom + (rest.map fun v => v.category).sum ≤ 8) (hdg : decode cc g.pc = .ok (.invokestatic index, 3)) (hf : cells + mc ≤ R.cells ∧ slots + ms ≤ R.slots) :
    va_Run p l e R s m args below meth c H locs cells slots mc ms g rest (Qc As.toArray) (free) := by
  obtain ⟨⟨hrc, hrs, hfr, hlo, hws, hcw⟩, hcode, hini, hy, hlen, hl, hstt⟩ := cw
  have hK : Back l R p e below s args y 3 8 (PreOf R mc ms Pc) (PostOf Qc mc ms free) := va_backW (hh := hh) (bytes := bytes) (maxL := maxL) (ret := ret) hM hp.1 hrc hrs hfr hlo hws hcw (fun a' U hW => word_at hW (Or.inl (by first | rfl | simp [Cond.onTables, Cond.keeps, Cond.steady])) hini)
  obtain ⟨hx, hb, hml, ho, -⟩ := S
  intro T hT X
  obtain ⟨v, vm₁, ⟨U', l2, c2, s2⟩, hW₁, X', ⟨g', mk, t, L, e1, e2, hq, h1, hL, h2, h3⟩, st⟩ := vx_callSW X hx (hh := hh) (bytes := bytes) (maxL := maxL) (ret := ret) ho hl hstt hini hcode hy hK hg (hsize.trans hml.symm) (argsL := As) (rest := rest) (fun sig h => hn.trans (hlen sig h)) hstack hW (by rw [hb]; exact hdg)
    (fun vm₁ hW₁ => ⟨hf.1, hf.2, hp.2 (T.setVm vm₁) hT hW₁⟩)
  dsimp only [Pt.U, Pt.locs, Pt.cells, Pt.slots] at X' e1 e2 h1 h2 h3 st
  subst h1; subst h2; subst h3
  exact ⟨v, (T.setVm vm₁).calling g' mk As.toArray, t, U', L, hT, X', hL, e1, e2, hq, st⟩
/-- not caught here, past rows that name other classes: it goes on to the caller -/
theorem vx_outP {p : Program} {l : Launch} {e : Env} {R : Room} {s : State} {m : MethodId} {args : Array Value} {below : List Frame} {meth : Method} {c : Code} {H : Heap} {locs : List Loc} {cells slots : Nat} {free : Addr → Prop} {ls : Array Slot} {rest : List Value} {Qc : Array Value → State → Outcome → State → Prop} {XC : String → State → State → Prop}
    {pc : Nat} {own E : String} {ce : Cell} {q : Addr} {mc ms : Nat} (hown : s.vm.findClass own = some m.cls) (hlocks : meth.locks = false)
    (hpass : ∀ z ∈ c.exceptionTable.toList, covers z pc = false ∨ (z.catchType ≠ 0 ∧ ∃ nm : String, (Cond.classLink own z.catchType nm).before args s = true ∧ va_Nc E nm s)) (hcell : H[q]? = some ce) (hv : ce.vm = .none) (hcl : s.vm.findClass E = some ce.cls)
    (hx : ∀ t : State, t.heap = H → s.vm.Alike t.vm → XC E s t) (hf : ∀ z ∈ locs, free z.base) (hc : cells ≤ mc) (hs : slots ≤ ms) :
    vx_W p l e R s m args below meth c H locs cells slots (vx_MQ below Qc XC args s mc ms free) (F0 m pc ls rest) q := by
  intro T hT X
  have hpl : e.platform.magicAccessors = ({} : Platform).magicAccessors := by rw [X.admits.platform]
  obtain ⟨vm', hW', X', st⟩ := X.outThrough hlocks q (g := F0 m pc ls rest) rfl rfl rfl (cell := ce) (by rw [hT]; exact hcell) (by rw [hv]; rfl)
    (by obtain ⟨k9, h9, -⟩ := Vm.findClass_spec hcl; exact ⟨k9, h9⟩) (fun z hz => by
      rcases hpass z hz with h | ⟨hz0, nm, hl1, hn1⟩
      · exact Or.inl h
      · obtain ⟨c6, hc6, hcl6⟩ := Cond.classLink_spec hown hl1 e.platform hpl
        obtain ⟨a8, b8, h1, h2, h3⟩ := hn1
        cases Option.some.inj (h1.symm.trans hcl)
        cases Option.some.inj (h2.symm.trans hc6)
        exact Or.inr ⟨hz0, _, hcl6, h3⟩)
  obtain ⟨g₀, hfr⟩ := X'.frames_eq
  have hcell9 : ((T.setVm vm').setFrames (.throwing q :: below)).heap[q]? = some ce := by
    show T.heap[q]? = some ce
    rw [hT]; exact hcell
  have hend : Ended ((T.setVm vm').setFrames (.throwing q :: below)) below (.threw q) := State.frames_setFrames _ (State.cur_lt_of_frames hfr)
  refine ⟨(T.setVm vm').setFrames (.throwing q :: below), ?_, .threw q, X'.here.running, hend, Or.inr ⟨q, rfl, E, ce, locs, hx _ hT (X'.ends _).1.alike, hcell9, hv, hcl, (X'.ends _).1, (X'.ends _).2.mono hc hs, hf⟩⟩
  rw [X.pushThrowing_eq]
  exact st
/-- a thing of a world lies in the heap -/
theorem vx_lt {D : va_G} {cl : List vw_C} {ws : va_W} {H1 : Heap} (h : va_P D cl ws H1) {k : Nat} {q : Nat × va_E} (hk : ws[k]? = some q) : q.1 < H1.size := (h k q hk).lt
end VXS
/-! ===== END ===== -/
/-! ===== BEGIN methods with a table of their own: called by a name, returning or throwing ===== -/
section VXH
/-! vx_backW, vx_callVX, vx_callSX, vx_callVW, vx_runVW, vx_runVX, vx_runSX, vx_ofWH follow the same proofs as their sisters above (Free/Laws.lean, Shelf42/LK1.lean); vx_outP calls Shelf42/NT130.lean (outThrough). -/
section
variable {l : Launch} {R : Room} {p : Program} {e : Env} {below : List Frame} {s : State} {sargs : Array Value} {y : MethodName} {len W9 : Nat}
theorem vx_backW {ws : List Cond} {rm : Room} {Pc : Array Value → State → Prop} {Qc : Array Value → State → Outcome → State → Prop} {XC : String → State → State → Prop} {mc ms : Nat} {free : Addr → Prop} {bytes : ByteArray} {maxL : Nat} {ret : Option FieldType} {hh : List (Nat × Nat × Nat × Nat)}
    (hM : vx_Met l y ws rm Pc Qc XC mc ms free) (hblind : FrameBlind Pc) (hrc : rm.cells = mc) (hrs : rm.slots = ms)
    (hframes : rm.frames + 1 ≤ R.frames) (hlocals : W9 + (maxL + 11) + rm.locals ≤ R.locals)
    (hws : ∀ w ∈ ws, ∀ a' U, s.WarmedH U.vm → w.before a' U = true) (hcode : Cond.codeWith y bytes maxL ret hh ∈ ws) (hinit : ∀ a' U, s.WarmedH U.vm → (Cond.initialized y.cls).before a' U = true) :
    vx_Back l R p e below s sargs y len W9 (PreOf R mc ms Pc) (PostOf Qc mc ms free) (vx_Post XC mc ms free) := by
  intro m meth c A g ig mk a X hg hsize hdg hW hn hp
  have h1 : (headSpec ws rm).pre.before a A.U = true := atoms_intro fun w hw => hws w hw _ _ X.warmed
  have h2 : (Cond.codeWith y bytes maxL ret hh).before a A.U = true := hws _ hcode _ _ X.warmed
  have h3 : (Cond.initialized y.cls).before a A.U = true := hinit _ _ X.warmed
  have h4 : A.cells + (headSpec ws rm).room.cells ≤ R.cells := by rw [show (headSpec ws rm).room.cells = mc from hrc]; exact hp.1
  have h5 : A.slots + (headSpec ws rm).room.slots ≤ R.slots := by rw [show (headSpec ws rm).room.slots = ms from hrs]; exact hp.2.1
  have hPc : Pc a (A.U.calling g mk a) := hblind _ _ _ _ hp.2.2
  obtain ⟨U, Ls, c0, s0⟩ := A
  dsimp only [Pt.U, Pt.locs, Pt.cells, Pt.slots] at h1 h2 h3 h4 h5 X hn hPc ⊢
  obtain ⟨m9, methY, cY, hn9, hmY, hcY, -, hlY, -⟩ := Cond.codeWith_spec h2
  cases Option.some.inj (hn9.symm.trans hn)
  obtain ⟨kY, hkY, -⟩ := className_of_methodNamed hn
  have hinitY : kY.init = .initialized := Cond.initialized_spec (findClass_of_methodNamed hn) hkY h3
  have h : At U g.method c below := by rw [hg]; exact X.here
  have hlocals9 : W9 + (maxL + 11) + (headSpec ws rm).room.locals ≤ R.locals := hlocals
  have happ : (headSpec ws rm).appliesLoose y e.platform (U.calling g mk a) = true :=
    Spec.appliesLoose_calling (g := g) h hdg hn hkY hinitY
      (X.room_calling (g := g) (R' := (headSpec ws rm).room) hsize hmY hcY hframes (by rw [hlY]; omega) h4 h5) h1
  obtain ⟨mid, hmid⟩ := h.above
  have hfr : (U.setTop g).frames = (.java g :: mid) ++ below := by rw [State.frames_setTop' g h.top, hmid]; rfl
  obtain ⟨o, s₂, hsteps, -, hend, hq⟩ := Steps.callFree hM p X.admits X.cas X.clock (acts := []) hfr happ hPc trivial
  have hq' : vx_Q Qc XC mc ms free a (U.calling g mk a) o s₂ := hq
  rw [State.frames_setTop' g h.top] at hend
  obtain ⟨g₀, hg0⟩ := Option.isSome_iff_exists.mp h.top
  obtain ⟨r, hr⟩ := State.topJava?_eq_some.mp hg0
  have hr' : (({ U with heap := s₂.heap, slotsUsed := s₂.slotsUsed } : State).setVm s₂.vm).frames = .java g₀ :: r := hr
  rcases hq' with ⟨hqc, L, hfe, hL⟩ | ⟨q, rfl, E, ce, L, hx, hce, hcv, hcl, hW₂, hsm, hL⟩
  · obtain ⟨⟨v, rfl⟩, hW₂, e2, q2, q3, q4, q5, q6⟩ := id hfe
    have e3 : s₂ = ({ (U.calling g mk a).setFrames s₂.frames with heap := s₂.heap, slotsUsed := s₂.slotsUsed } : State).setVm s₂.vm := by
      have : s₂ = ({ s₂ with vm := (U.calling g mk a).vm } : State).setVm s₂.vm := rfl
      rw [e2] at this
      exact this
    obtain ⟨c₂, i₂, len₂, hc₂, hd₂, hf₂⟩ := hend
    have hW' : U.WarmedH s₂.vm := hW₂
    have hcc : c₂ = c := by
      have h1 : s₂.code? g.method = U.code? g.method := by
        rw [State.code?_eq, State.code?_eq, hW'.alike.method?]
      exact Option.some.inj (hc₂.symm.trans (h1.trans h.code))
    subst hcc
    have hlen : len₂ = len := by rw [hdg] at hd₂; cases hd₂; rfl
    subst hlen
    have hs₂ : s₂ = (({ U with heap := s₂.heap, slotsUsed := s₂.slotsUsed } : State).setVm s₂.vm).setTop { g with pc := g.pc + len₂, stack := v.toList ++ g.stack } := by
      refine e3.trans ?_
      rw [hf₂, State.calling_eq h.top, State.setFrames_setFrames, State.setTop_of_frames _ hr', hr]
      rfl
    have hsame : U.sameButNew ({ U with heap := s₂.heap, slotsUsed := s₂.slotsUsed } : State) L mc ms := by
      refine ⟨?_, q2, q3, q4, q5, q6⟩
      obtain ⟨t, ht, -⟩ := State.frames_cons hr
      show ({ U with heap := s₂.heap, slotsUsed := s₂.slotsUsed } : State) = { U.setFrames U.frames with heap := s₂.heap, slotsUsed := s₂.slotsUsed }
      rw [State.setFrames_self ht]
    subst hg
    refine Or.inl ⟨v, ⟨(({ U with heap := s₂.heap, slotsUsed := s₂.slotsUsed } : State).setVm s₂.vm), Ls ++ L, c0 + mc, s0 + ms⟩,
      ⟨X.admits, X.cas, X.clock, X.frames, X.room, X.hears, X.method, X.code, (X.here.setHeapUsed s₂.heap s₂.slotsUsed).setVm hW'.alike, X.tail, State.WarmedH.trans X.warmed hW', X.limits, X.bytes, X.same.trans (hsame.setVm s.vm)⟩,
      ⟨g, mk, s₂, L, rfl, rfl, hqc, rfl, hL, rfl, rfl⟩, ?_⟩
    show Steps p.tables e below _ ((({ U with heap := s₂.heap, slotsUsed := s₂.slotsUsed } : State).setVm s₂.vm).setTop { g with pc := g.pc + len₂, stack := v.toList ++ g.stack })
    rw [← hs₂]
    exact hsteps
  · obtain ⟨e2, q2, q3, q4, q5, q6⟩ := id hsm
    have e3 : s₂ = ({ (U.calling g mk a).setFrames s₂.frames with heap := s₂.heap, slotsUsed := s₂.slotsUsed } : State).setVm s₂.vm := by
      have : s₂ = ({ s₂ with vm := (U.calling g mk a).vm } : State).setVm s₂.vm := rfl
      rw [e2] at this
      exact this
    have hf₂ : s₂.frames = .throwing q :: .java g :: U.frames.tail := hend
    have hW' : U.WarmedH s₂.vm := hW₂
    have hs₂ : s₂ = ((({ U with heap := s₂.heap, slotsUsed := s₂.slotsUsed } : State).setVm s₂.vm).setTop g).pushFrame (.throwing q) := by
      refine e3.trans ?_
      rw [hf₂, State.calling_eq h.top, State.setFrames_setFrames, State.pushFrame, State.frames_setTop _ hr', State.setTop_of_frames _ hr', State.setFrames_setFrames, hr]
      rfl
    have hsame : U.sameButNew ({ U with heap := s₂.heap, slotsUsed := s₂.slotsUsed } : State) L mc ms := by
      refine ⟨?_, q2, q3, q4, q5, q6⟩
      obtain ⟨t, ht, -⟩ := State.frames_cons hr
      show ({ U with heap := s₂.heap, slotsUsed := s₂.slotsUsed } : State) = { U.setFrames U.frames with heap := s₂.heap, slotsUsed := s₂.slotsUsed }
      rw [State.setFrames_self ht]
    subst hg
    refine Or.inr ⟨q, ⟨(({ U with heap := s₂.heap, slotsUsed := s₂.slotsUsed } : State).setVm s₂.vm), Ls ++ L, c0 + mc, s0 + ms⟩,
      ⟨X.admits, X.cas, X.clock, X.frames, X.room, X.hears, X.method, X.code, (X.here.setHeapUsed s₂.heap s₂.slotsUsed).setVm hW'.alike, X.tail, State.WarmedH.trans X.warmed hW', X.limits, X.bytes, X.same.trans (hsame.setVm s.vm)⟩,
      ⟨g, mk, s₂, L, E, ce, rfl, rfl, hx, hce, hcv, hcl, rfl, hL, rfl, rfl⟩, ?_⟩
    show Steps p.tables e below _ (((({ U with heap := s₂.heap, slotsUsed := s₂.slotsUsed } : State).setVm s₂.vm).setTop g).pushFrame (.throwing q))
    rw [← hs₂]
    exact hsteps
end
variable {p : Program} {l : Launch} {e : Env} {R : Room} {s : State} {m : MethodId} {args : Array Value} {below : List Frame} {meth : Method} {c : Code} {T : State} {H : Heap} {locs : List Loc} {cells slots : Nat}
theorem vx_callVX (X : Stand p l e R s m args below meth c T locs cells slots) (hexec : p.tables.exec = Jvm.exec) {own C : String} {index : Nat} {y : MethodName} {bytes : ByteArray} {maxL : Nat} {ret : Option FieldType} {hh : List (Nat × Nat × Nat × Nat)}
    (hown : s.vm.findClass own = some m.cls) (hlink : (Cond.methodLink own index y).before args s = true) (hinst : (Cond.instanceMethod y).before args s = true) (hsel : (Cond.selects C y y).before args s = true)
    (hcode : (Cond.codeWith y bytes maxL ret hh).before args s = true) (hy : y.cls ≠ "java/lang/invoke/MethodHandle" ∧ y.cls ≠ "java/lang/invoke/VarHandle")
    {W9 : Nat} {Pre : Pt → Array Value → Prop} {Post : Pt → Array Value → Option Value → Pt → Prop} {PostX : Pt → Array Value → Addr → Pt → Prop} (hK : vx_Back l R p e below s args y 3 W9 Pre Post PostX)
    {b : Addr} {cellB : Cell} (hcell : T.heap[b]? = some cellB) (hobj : cellB.vm.isStatics = false) (hcls : s.vm.findClass C = some cellB.cls)
    {g : JFrame} (hg : g.method = m) (hsize : g.locals.size = c.maxLocals) {argsL rest : List Value} (hlen : ∀ sig, parseMethodDescriptor y.desc = some sig → argsL.length = sig.parameters.length)
    (hstack : g.stack = argsL.reverse ++ .ref b :: rest) (hW : 2 * g.monitorRoom + (rest.map fun v => v.category).sum ≤ W9) (hdg : decode c.code g.pc = .ok (.invokevirtual index, 3))
    (hpre : ∀ vm₁, s.WarmedH vm₁ → Pre ⟨T.setVm vm₁, locs, cells, slots⟩ (Value.ref b :: argsL).toArray) :
    (∃ (v : Option Value) (vm₁ : Vm) (B : Pt), s.WarmedH vm₁ ∧ Stand p l e R s m args below meth c B.U B.locs B.cells B.slots ∧ Post ⟨T.setVm vm₁, locs, cells, slots⟩ (Value.ref b :: argsL).toArray v B ∧
      ∀ target, Steps p.tables e below (B.U.setTop { g with pc := g.pc + 3, stack := v.toList ++ rest }) target → Steps p.tables e below (T.setTop g) target) ∨
    (∃ (q : Addr) (vm₁ : Vm) (B : Pt), s.WarmedH vm₁ ∧ Stand p l e R s m args below meth c B.U B.locs B.cells B.slots ∧ PostX ⟨T.setVm vm₁, locs, cells, slots⟩ (Value.ref b :: argsL).toArray q B ∧
      Steps p.tables e below (T.setTop g) ((B.U.setTop { g with stack := rest }).pushFrame (.throwing q))) := by
  obtain ⟨mk, methM, hnamed, hmethM, hstM, habM⟩ := Cond.instanceMethod_spec hinst
  obtain ⟨m8, methM', cM, hn8, hmethM', -, -, -, -, -, -, hsigM⟩ := Cond.codeWith_spec hcode
  cases Option.some.inj (hn8.symm.trans hnamed)
  cases hmethM.symm.trans hmethM'
  obtain ⟨c2, r2, m2, q1, q2, q3, q4, kP, hkP, hkPi⟩ := Cond.selects_spec hsel
  cases hcls.symm.trans q1
  cases (State.methodFound?_of_named hnamed hy).symm.trans q2
  cases hnamed.symm.trans q3
  have hselP : selectMethod e.platform s.vm cellB.cls mk = .method mk := by rw [Launch.admits_selectMethod X.admits]; exact q4
  obtain ⟨vm₁, X₁, hstep₁⟩ := X.invokevirtual hexec hown hlink hnamed hmethM hstM hkP hkPi hy (a := b) (cell := cellB) hcell
    (fun z h => by rw [h] at hobj; cases hobj) hselP hmethM habM hkP hkPi (g := g) hg (argsL := argsL) (rest := rest) (hlen _ hsigM) hstack hdg
  rcases hK m meth c ⟨T.setVm vm₁, locs, cells, slots⟩ { g with stack := rest } (.invokevirtual index) mk (Value.ref b :: argsL).toArray X₁ hg hsize hdg hW (X₁.named hnamed) (hpre vm₁ X₁.warmed) with ⟨v, B, X', hpost, hsteps⟩ | ⟨q, B, X', hpost, hsteps⟩
  · exact Or.inl ⟨v, vm₁, B, X₁.warmed, X', hpost, fun target h => hstep₁ _ fun acts => by rw [doInvoke_state]; exact hsteps.trans h⟩
  · exact Or.inr ⟨q, vm₁, B, X₁.warmed, X', hpost, hstep₁ _ fun acts => by rw [doInvoke_state]; exact hsteps⟩
theorem vx_callSX (X : Stand p l e R s m args below meth c T locs cells slots) (hexec : p.tables.exec = Jvm.exec) {own : String} {index : Nat} {y : MethodName} {bytes : ByteArray} {maxL : Nat} {ret : Option FieldType} {hh : List (Nat × Nat × Nat × Nat)}
    (hown : s.vm.findClass own = some m.cls) (hlink : (Cond.methodLink own index y).before args s = true) (hstat : (Cond.static y).before args s = true) (hinit : (Cond.initialized y.cls).before args s = true)
    (hcode : (Cond.codeWith y bytes maxL ret hh).before args s = true) (hy : y.cls ≠ "java/lang/invoke/MethodHandle" ∧ y.cls ≠ "java/lang/invoke/VarHandle")
    {W9 : Nat} {Pre : Pt → Array Value → Prop} {Post : Pt → Array Value → Option Value → Pt → Prop} {PostX : Pt → Array Value → Addr → Pt → Prop} (hK : vx_Back l R p e below s args y 3 W9 Pre Post PostX)
    {g : JFrame} (hg : g.method = m) (hsize : g.locals.size = c.maxLocals) {argsL rest : List Value} (hlen : ∀ sig, parseMethodDescriptor y.desc = some sig → argsL.length = sig.parameters.length)
    (hstack : g.stack = argsL.reverse ++ rest) (hW : 2 * g.monitorRoom + (rest.map fun v => v.category).sum ≤ W9) (hdg : decode c.code g.pc = .ok (.invokestatic index, 3))
    (hpre : ∀ vm₁, s.WarmedH vm₁ → Pre ⟨T.setVm vm₁, locs, cells, slots⟩ argsL.toArray) :
    (∃ (v : Option Value) (vm₁ : Vm) (B : Pt), s.WarmedH vm₁ ∧ Stand p l e R s m args below meth c B.U B.locs B.cells B.slots ∧ Post ⟨T.setVm vm₁, locs, cells, slots⟩ argsL.toArray v B ∧
      ∀ target, Steps p.tables e below (B.U.setTop { g with pc := g.pc + 3, stack := v.toList ++ rest }) target → Steps p.tables e below (T.setTop g) target) ∨
    (∃ (q : Addr) (vm₁ : Vm) (B : Pt), s.WarmedH vm₁ ∧ Stand p l e R s m args below meth c B.U B.locs B.cells B.slots ∧ PostX ⟨T.setVm vm₁, locs, cells, slots⟩ argsL.toArray q B ∧
      Steps p.tables e below (T.setTop g) ((B.U.setTop { g with stack := rest }).pushFrame (.throwing q))) := by
  obtain ⟨mk, methM, cM, hnamed, hmethM, -, -, -, -, -, -, hsigM⟩ := Cond.codeWith_spec hcode
  have hstatic : methM.isStatic = true := Cond.static_spec hnamed hmethM hstat
  obtain ⟨kP, hkP, -⟩ := className_of_methodNamed hnamed
  have hinitP : kP.init = .initialized := Cond.initialized_spec (findClass_of_methodNamed hnamed) hkP hinit
  obtain ⟨vm₁, X₁, hstep₁⟩ := X.invokestatic hexec hown hlink hnamed hmethM hstatic hkP hinitP hy (g := g) hg (argsL := argsL) (rest := rest) (hlen _ hsigM) hstack hdg
  rcases hK m meth c ⟨T.setVm vm₁, locs, cells, slots⟩ { g with stack := rest } (.invokestatic index) mk argsL.toArray X₁ hg hsize hdg hW (X₁.named hnamed) (hpre vm₁ X₁.warmed) with ⟨v, B, X', hpost, hsteps⟩ | ⟨q, B, X', hpost, hsteps⟩
  · exact Or.inl ⟨v, vm₁, B, X₁.warmed, X', hpost, fun target h => hstep₁ _ fun acts => by rw [doInvoke_state]; exact hsteps.trans h⟩
  · exact Or.inr ⟨q, vm₁, B, X₁.warmed, X', hpost, hstep₁ _ fun acts => by rw [doInvoke_state]; exact hsteps⟩
theorem vx_callVW (X : Stand p l e R s m args below meth c T locs cells slots) (hexec : p.tables.exec = Jvm.exec) {own C : String} {index : Nat} {y : MethodName} {bytes : ByteArray} {maxL : Nat} {ret : Option FieldType} {hh : List (Nat × Nat × Nat × Nat)}
    (hown : s.vm.findClass own = some m.cls) (hlink : (Cond.methodLink own index y).before args s = true) (hinst : (Cond.instanceMethod y).before args s = true) (hsel : (Cond.selects C y y).before args s = true)
    (hcode : (Cond.codeWith y bytes maxL ret hh).before args s = true) (hy : y.cls ≠ "java/lang/invoke/MethodHandle" ∧ y.cls ≠ "java/lang/invoke/VarHandle")
    {W9 : Nat} {Pre : Pt → Array Value → Prop} {Post : Pt → Array Value → Option Value → Pt → Prop} (hK : Back l R p e below s args y 3 W9 Pre Post)
    {b : Addr} {cellB : Cell} (hcell : T.heap[b]? = some cellB) (hobj : cellB.vm.isStatics = false) (hcls : s.vm.findClass C = some cellB.cls)
    {g : JFrame} (hg : g.method = m) (hsize : g.locals.size = c.maxLocals) {argsL rest : List Value} (hlen : ∀ sig, parseMethodDescriptor y.desc = some sig → argsL.length = sig.parameters.length)
    (hstack : g.stack = argsL.reverse ++ .ref b :: rest) (hW : 2 * g.monitorRoom + (rest.map fun v => v.category).sum ≤ W9) (hdg : decode c.code g.pc = .ok (.invokevirtual index, 3))
    (hpre : ∀ vm₁, s.WarmedH vm₁ → Pre ⟨T.setVm vm₁, locs, cells, slots⟩ (Value.ref b :: argsL).toArray) :
    ∃ (v : Option Value) (vm₁ : Vm) (B : Pt), s.WarmedH vm₁ ∧ Stand p l e R s m args below meth c B.U B.locs B.cells B.slots ∧ Post ⟨T.setVm vm₁, locs, cells, slots⟩ (Value.ref b :: argsL).toArray v B ∧
      ∀ target, Steps p.tables e below (B.U.setTop { g with pc := g.pc + 3, stack := v.toList ++ rest }) target → Steps p.tables e below (T.setTop g) target := by
  obtain ⟨mk, methM, hnamed, hmethM, hstM, habM⟩ := Cond.instanceMethod_spec hinst
  obtain ⟨m8, methM', cM, hn8, hmethM', -, -, -, -, -, -, hsigM⟩ := Cond.codeWith_spec hcode
  cases Option.some.inj (hn8.symm.trans hnamed)
  cases hmethM.symm.trans hmethM'
  obtain ⟨c2, r2, m2, q1, q2, q3, q4, kP, hkP, hkPi⟩ := Cond.selects_spec hsel
  cases hcls.symm.trans q1
  cases (State.methodFound?_of_named hnamed hy).symm.trans q2
  cases hnamed.symm.trans q3
  have hselP : selectMethod e.platform s.vm cellB.cls mk = .method mk := by rw [Launch.admits_selectMethod X.admits]; exact q4
  obtain ⟨vm₁, X₁, hstep₁⟩ := X.invokevirtual hexec hown hlink hnamed hmethM hstM hkP hkPi hy (a := b) (cell := cellB) hcell
    (fun z h => by rw [h] at hobj; cases hobj) hselP hmethM habM hkP hkPi (g := g) hg (argsL := argsL) (rest := rest) (hlen _ hsigM) hstack hdg
  obtain ⟨v, B, X', hpost, hsteps⟩ := hK m meth c ⟨T.setVm vm₁, locs, cells, slots⟩ { g with stack := rest } (.invokevirtual index) mk (Value.ref b :: argsL).toArray X₁ hg hsize hdg hW (X₁.named hnamed) (hpre vm₁ X₁.warmed)
  exact ⟨v, vm₁, B, X₁.warmed, X', hpost, fun target h => hstep₁ _ fun acts => by rw [doInvoke_state]; exact hsteps.trans h⟩
abbrev vx_CVW (R : Room) (s : State) (args : Array Value) (own C : String) (index : Nat) (y : MethodName) (bytes : ByteArray) (maxL : Nat) (ret : Option FieldType) (hh : List (Nat × Nat × Nat × Nat)) (ws : List Cond) (rm : Room) (mc ms n : Nat) : Prop :=
  (rm.cells = mc ∧ rm.slots = ms ∧ rm.frames + 1 ≤ R.frames ∧ 8 + (maxL + 11) + rm.locals ≤ R.locals ∧ (∀ w ∈ ws, ∀ (a' : Array Value) (U : State), s.WarmedH U.vm → w.before a' U = true) ∧ Cond.codeWith y bytes maxL ret hh ∈ ws) ∧
  (Cond.codeWith y bytes maxL ret hh).before args s = true ∧ (Cond.initialized y.cls).before args s = true ∧ (y.cls ≠ "java/lang/invoke/MethodHandle" ∧ y.cls ≠ "java/lang/invoke/VarHandle") ∧
  (∀ sig, parseMethodDescriptor y.desc = some sig → n = sig.parameters.length) ∧ (Cond.methodLink own index y).before args s = true ∧ (Cond.instanceMethod y).before args s = true ∧ (Cond.selects C y y).before args s = true
theorem vx_cwVW {own C : String} {index maxL mc ms : Nat} {y : MethodName} {bytes : ByteArray} {ret : Option FieldType} {hh : List (Nat × Nat × Nat × Nat)} {Ts ws ws' : List Cond} {rm : Room} (n : Nat) (ht : ∀ w ∈ Ts, w.before args s = true) (hT : GoodIn Ts (wsV own index C y ws)) (hw : ws = Cond.codeWith y bytes maxL ret hh :: ws') (hrc : rm.cells = mc) (hrs : rm.slots = ms)
    (hd : y.cls = C ∧ y.cls ≠ "java/lang/invoke/MethodHandle" ∧ y.cls ≠ "java/lang/invoke/VarHandle" ∧ (parseMethodDescriptor y.desc).map (fun d => d.parameters.length) = some n) (hR : rm.frames + 1 ≤ R.frames ∧ 8 + (maxL + 11) + rm.locals ≤ R.locals) :
    vx_CVW R s args own C index y bytes maxL ret hh ws rm mc ms n := by
  obtain ⟨hC, hd⟩ := hd
  subst hC
  have ok : ∀ w ∈ wsV own index y.cls y ws, w.before args s = true := fun w h => ht w (hT w h).1
  have hG : GoodIn Ts ws := fun w h => hT w (by unfold wsV; exact List.mem_append_right _ h)
  have hc : Cond.codeWith y bytes maxL ret hh ∈ ws := by rw [hw]; exact List.mem_cons_self
  refine ⟨⟨hrc, hrs, hR.1, hR.2, pay_in ht hG, hc⟩, ht _ (hG _ hc).1, ok _ (by simp [wsV]), ⟨hd.1, hd.2.1⟩, fun sig h => ?_, ok _ (by simp [wsV]), ok _ (by simp [wsV]), ok _ (by simp [wsV])⟩
  have h2 := hd.2.2
  rw [h] at h2
  exact (Option.some.inj h2).symm
theorem vx_runVW {y : MethodName} {bytes cc : ByteArray} {maxL nL mc ms n index : Nat} {ret : Option FieldType} {hh : List (Nat × Nat × Nat × Nat)} {ws : List Cond} {rm : Room} {Pc : Array Value → State → Prop} {Qc : Array Value → State → Outcome → State → Prop} {free : Addr → Prop} {Ts : List Cond} {own C : String} {b : Addr} {As rest : List Value} {g : JFrame}
    (S : CallFix p m c cc nL s args Ts own) (hM : Met l y ws rm Pc Qc mc ms free) (cw : vx_CVW R s args own C index y bytes maxL ret hh ws rm mc ms n) (hp : PreV s H C b Pc As)
    (hg : g.method = m) (hn : As.length = n) (hsize : g.locals.size = nL) (hstack : g.stack = As.reverse ++ .ref b :: rest) (hW : 2 * g.monitorRoom + (rest.map fun v => v.category).sum ≤ 8) (hdg : decode cc g.pc = .ok (.invokevirtual index, 3)) (hf : cells + mc ≤ R.cells ∧ slots + ms ≤ R.slots) :
    va_Run p l e R s m args below meth c H locs cells slots mc ms g rest (Qc (Value.ref b :: As).toArray) free := by
  obtain ⟨⟨hrc, hrs, hfr, hlo, hws, hcw⟩, hcode, hini, hy, hlen, hl, hin, hse⟩ := cw
  have hK : Back l R p e below s args y 3 8 (PreOf R mc ms Pc) (PostOf Qc mc ms free) := va_backW (hh := hh) (bytes := bytes) (maxL := maxL) (ret := ret) hM hp.1 hrc hrs hfr hlo hws hcw (fun a' U hW => word_at hW (Or.inl (by first | rfl | simp [Cond.onTables, Cond.keeps, Cond.steady])) hini)
  obtain ⟨hx, hb, hml, ho, -⟩ := S
  obtain ⟨-, ⟨cellB, hcB, hoB, hclB⟩, hPc⟩ := hp
  intro T hT X
  obtain ⟨v, vm₁, ⟨U', l2, c2, s2⟩, hW₁, X', ⟨g', mk, t, L, e1, e2, hq, h1, hL, h2, h3⟩, st⟩ := vx_callVW X hx (C := C) (hh := hh) (bytes := bytes) (maxL := maxL) (ret := ret) ho hl hin hse hcode hy hK (by rw [hT]; exact hcB) hoB hclB hg (hsize.trans hml.symm) (argsL := As) (rest := rest) (fun sig h => hn.trans (hlen sig h)) hstack hW (by rw [hb]; exact hdg)
    (fun vm₁ hW₁ => ⟨hf.1, hf.2, hPc (T.setVm vm₁) hT hW₁⟩)
  dsimp only [Pt.U, Pt.locs, Pt.cells, Pt.slots] at X' e1 e2 h1 h2 h3 st
  subst h1; subst h2; subst h3
  exact ⟨v, (T.setVm vm₁).calling g' mk (Value.ref b :: As).toArray, t, U', L, hT, X', hL, e1, e2, hq, st⟩
section
variable {y : MethodName} {bytes cc : ByteArray} {maxL nL mc ms n index : Nat} {ret : Option FieldType} {ws : List Cond} {rm : Room} {Pc : Array Value → State → Prop} {Qc : Array Value → State → Outcome → State → Prop} {XC : String → State → State → Prop} {free : Addr → Prop} {Ts : List Cond} {own C : String} {b : Addr} {As rest : List Value} {g : JFrame}
theorem vx_runVX {hh : List (Nat × Nat × Nat × Nat)} (S : CallFix p m c cc nL s args Ts own) (hM : vx_Met l y ws rm Pc Qc XC mc ms free) (cw : vx_CVW R s args own C index y bytes maxL ret hh ws rm mc ms n) (hp : PreV s H C b Pc As)
    (hg : g.method = m) (hn : As.length = n) (hsize : g.locals.size = nL) (hstack : g.stack = As.reverse ++ .ref b :: rest) (hW : 2 * g.monitorRoom + (rest.map fun v => v.category).sum ≤ 8) (hdg : decode cc g.pc = .ok (.invokevirtual index, 3)) (hf : cells + mc ≤ R.cells ∧ slots + ms ≤ R.slots) :
    vx_Run p l e R s m args below meth c H locs cells slots mc ms g rest (Qc (Value.ref b :: As).toArray) XC free := by
  obtain ⟨⟨hrc, hrs, hfr, hlo, hws, hcw⟩, hcode, hini, hy, hlen, hl, hin, hse⟩ := cw
  have hK : vx_Back l R p e below s args y 3 8 (PreOf R mc ms Pc) (PostOf Qc mc ms free) (vx_Post XC mc ms free) := vx_backW (hh := hh) (bytes := bytes) (maxL := maxL) (ret := ret) hM hp.1 hrc hrs hfr hlo hws hcw (fun a' U hW => word_at hW (Or.inl (by first | rfl | simp [Cond.onTables, Cond.keeps, Cond.steady])) hini)
  obtain ⟨hx, hb, hml, ho, -⟩ := S
  obtain ⟨-, ⟨cellB, hcB, hoB, hclB⟩, hPc⟩ := hp
  intro T hT X
  rcases vx_callVX X hx (C := C) (hh := hh) (bytes := bytes) (maxL := maxL) (ret := ret) ho hl hin hse hcode hy hK (by rw [hT]; exact hcB) hoB hclB hg (hsize.trans hml.symm) (argsL := As) (rest := rest) (fun sig h => hn.trans (hlen sig h)) hstack hW (by rw [hb]; exact hdg)
    (fun vm₁ hW₁ => ⟨hf.1, hf.2, hPc (T.setVm vm₁) hT hW₁⟩) with ⟨v, vm₁, ⟨U', l2, c2, s2⟩, hW₁, X', ⟨g', mk, t, L, e1, e2, hq, h1, hL, h2, h3⟩, st⟩ | ⟨q, vm₁, ⟨U', l2, c2, s2⟩, hW₁, X', ⟨g', mk, t, L, E, ce, e1, e2, hq, hce, hcv, hcl, h1, hL, h2, h3⟩, st⟩
  · dsimp only [Pt.U, Pt.locs, Pt.cells, Pt.slots] at X' e1 e2 h1 h2 h3 st
    subst h1; subst h2; subst h3
    exact Or.inl ⟨v, (T.setVm vm₁).calling g' mk (Value.ref b :: As).toArray, t, U', L, hT, X', hL, e1, e2, hq, st⟩
  · dsimp only [Pt.U, Pt.locs, Pt.cells, Pt.slots] at X' e1 e2 h1 h2 h3 st hcl
    subst h1; subst h2; subst h3
    exact Or.inr ⟨q, (T.setVm vm₁).calling g' mk (Value.ref b :: As).toArray, t, U', L, E, ce, hT, X', hL, e1, e2, hq, hce, hcv, vx_cls hW₁ hcl, st⟩
theorem vx_runSX {hh : List (Nat × Nat × Nat × Nat)} (S : CallFix p m c cc nL s args Ts own) (hM : vx_Met l y ws rm Pc Qc XC mc ms free) (cw : vx_CSW R s args own index y bytes maxL ret hh ws rm mc ms n) (hp : PreS s H Pc As)
    (hg : g.method = m) (hn : As.length = n) (hsize : g.locals.size = nL) (hstack : g.stack = As.reverse ++ rest) (hW : 2 * g.monitorRoom + (rest.map fun v => v.category).sum ≤ 8) (hdg : decode cc g.pc = .ok (.invokestatic index, 3)) (hf : cells + mc ≤ R.cells ∧ slots + ms ≤ R.slots) :
    vx_Run p l e R s m args below meth c H locs cells slots mc ms g rest (Qc As.toArray) XC free := by
  obtain ⟨⟨hrc, hrs, hfr, hlo, hws, hcw⟩, hcode, hini, hy, hlen, hl, hstt⟩ := cw
  have hK : vx_Back l R p e below s args y 3 8 (PreOf R mc ms Pc) (PostOf Qc mc ms free) (vx_Post XC mc ms free) := vx_backW (hh := hh) (bytes := bytes) (maxL := maxL) (ret := ret) hM hp.1 hrc hrs hfr hlo hws hcw (fun a' U hW => word_at hW (Or.inl (by first | rfl | simp [Cond.onTables, Cond.keeps, Cond.steady])) hini)
  obtain ⟨hx, hb, hml, ho, -⟩ := S
  intro T hT X
  rcases vx_callSX X hx (hh := hh) (bytes := bytes) (maxL := maxL) (ret := ret) ho hl hstt hini hcode hy hK hg (hsize.trans hml.symm) (argsL := As) (rest := rest) (fun sig h => hn.trans (hlen sig h)) hstack hW (by rw [hb]; exact hdg)
    (fun vm₁ hW₁ => ⟨hf.1, hf.2, hp.2 (T.setVm vm₁) hT hW₁⟩) with ⟨v, vm₁, ⟨U', l2, c2, s2⟩, hW₁, X', ⟨g', mk, t, L, e1, e2, hq, h1, hL, h2, h3⟩, st⟩ | ⟨q, vm₁, ⟨U', l2, c2, s2⟩, hW₁, X', ⟨g', mk, t, L, E, ce, e1, e2, hq, hce, hcv, hcl, h1, hL, h2, h3⟩, st⟩
  · dsimp only [Pt.U, Pt.locs, Pt.cells, Pt.slots] at X' e1 e2 h1 h2 h3 st
    subst h1; subst h2; subst h3
    exact Or.inl ⟨v, (T.setVm vm₁).calling g' mk As.toArray, t, U', L, hT, X', hL, e1, e2, hq, st⟩
  · dsimp only [Pt.U, Pt.locs, Pt.cells, Pt.slots] at X' e1 e2 h1 h2 h3 st hcl
    subst h1; subst h2; subst h3
    exact Or.inr ⟨q, (T.setVm vm₁).calling g' mk As.toArray, t, U', L, E, ce, hT, X', hL, e1, e2, hq, hce, hcv, vx_cls hW₁ hcl, st⟩
end
end VXH
theorem vx_ofWH {l : Launch} {y : MethodName} {ws ws' : List Cond} {rm : Room} {Pc : Array Value → State → Prop} {Qc : Array Value → State → Outcome → State → Prop} {XC : String → State → State → Prop} {mc ms : Nat} {free : Addr → Prop} {cc : ByteArray} {maxL : Nat} {ret : Option FieldType} {hh : List (Nat × Nat × Nat × Nat)}
    (hy : plainName y.cls = true) (hw : ws = Cond.codeWith y cc maxL ret hh :: ws')
    (body : ∀ p e s m args below meth c s₁, BodyLoose p l y (headSpec ws rm) cc maxL ret e s m args below meth c s₁ → c.maxLocals = maxL → Pc args s →
      W p l e (headSpec ws rm).room s m args below meth c s.heap [] 0 0 (vx_MQ below Qc XC args s mc ms free) (entryFrame m args maxL)) : vx_Met l y ws rm Pc Qc XC mc ms free := by
  refine MetFree.of_bodyS (code := cc) (maxLocals := maxL) (ret := ret) hy ?_ ?_
  · intro args s m h hn
    obtain ⟨m9, meth, c, hn9, h1, h2, h3, h4, -, h5, h6, -⟩ := Cond.codeWith_spec (atoms_spec (ws := ws) h _ (by rw [hw]; exact List.mem_cons_self))
    cases hn.symm.trans hn9
    exact ⟨meth, c, h1, h2, h3, h4, h5, h6⟩
  · intro p e s m args below meth c s₁ B hml hP _
    have hh0 : s₁.heap = s.heap := by rw [B.state]; rfl
    obtain ⟨t, a1, o, b1, b2, b3⟩ := body p e s m args below meth c s₁ B hml hP s₁ hh0 (Stand.of_body B)
    exact ⟨t, o, a1, b1, b2, b3⟩
/-! ===== END ===== -/
end
section
/-! ===== BEGIN printed: names, fields, word lists, decode rows ===== -/
def RX0 : String := "SewingPiles$History"
def TX0 : u_T := fun k => match k with
  | 0 => ("SewingPiles$History", "states", "[LSewingPiles$Room;", true)
  | _ => ("SewingPiles$History", "count", "I", false)
def tyX0 : Nat → FieldType := fun k => match k with
  | 0 => .array (.object "SewingPiles$Room")
  | _ => .int
abbrev wsX00 : List Cond := u_ws RX0 TX0 2
theorem nmX0 : ∀ a, a < 2 → ∀ b, b < 2 → a ≠ b → (TX0 a).2.1 ≠ (TX0 b).2.1 := by decide +kernel
theorem tyX0_ok : ∀ k, k < 2 → parseFieldDescriptor (TX0 k).2.2.1 = some (tyX0 k) := by decide +kernel
abbrev cX0_init : ByteArray := prog_2_method_1_code
def yX0_init : MethodName := ⟨RX0, "<init>", "()V"⟩
abbrev cX0_save : ByteArray := prog_2_method_2_code
def yX0_save : MethodName := ⟨RX0, "save", "(LSewingPiles$Room;)V"⟩
abbrev cX0_restoreLatest : ByteArray := prog_2_method_3_code
def yX0_restoreLatest : MethodName := ⟨RX0, "restoreLatest", "(LSewingPiles$Room;)V"⟩
abbrev cX0_dropOldest : ByteArray := prog_2_method_4_code
def yX0_dropOldest : MethodName := ⟨RX0, "dropOldest", "()V"⟩
def RX1 : String := "SewingPiles$OrderText"
def TX1 : u_T := fun k => match k with
  | 0 => ("SewingPiles$OrderText", "codes", "[C", true)
  | _ => ("SewingPiles$OrderText", "length", "I", false)
def tyX1 : Nat → FieldType := fun k => match k with
  | 0 => .array .char
  | _ => .int
abbrev wsX10 : List Cond := u_ws RX1 TX1 2
theorem nmX1 : ∀ a, a < 2 → ∀ b, b < 2 → a ≠ b → (TX1 a).2.1 ≠ (TX1 b).2.1 := by decide +kernel
theorem tyX1_ok : ∀ k, k < 2 → parseFieldDescriptor (TX1 k).2.2.1 = some (tyX1 k) := by decide +kernel
abbrev cX1_init : ByteArray := prog_3_method_1_code
def yX1_init : MethodName := ⟨RX1, "<init>", "()V"⟩
abbrev cX1_add : ByteArray := prog_3_method_2_code
def yX1_add : MethodName := ⟨RX1, "add", "(I)V"⟩
abbrev cX1_empty : ByteArray := prog_3_method_3_code
def yX1_empty : MethodName := ⟨RX1, "empty", "()I"⟩
abbrev cX1_codeAt : ByteArray := prog_3_method_4_code
def yX1_codeAt : MethodName := ⟨RX1, "codeAt", "(I)I"⟩
abbrev cX1_indexOfError : ByteArray := prog_3_method_5_code
def yX1_indexOfError : MethodName := ⟨RX1, "indexOfError", "()I"⟩
abbrev cX1_isComplete : ByteArray := prog_3_method_6_code
def yX1_isComplete : MethodName := ⟨RX1, "isComplete", "()Z"⟩
abbrev cX1_startsPart : ByteArray := prog_3_method_7_code
def yX1_startsPart : MethodName := ⟨RX1, "startsPart", "(I)Z"⟩
abbrev cX1_numberAt : ByteArray := prog_3_method_8_code
def yX1_numberAt : MethodName := ⟨RX1, "numberAt", "(I)I"⟩
abbrev cX1_stateBehind : ByteArray := prog_3_method_9_code
def yX1_stateBehind : MethodName := ⟨RX1, "stateBehind", "(II)I"⟩
abbrev cX1_stateBehindKind : ByteArray := prog_3_method_10_code
def yX1_stateBehindKind : MethodName := ⟨RX1, "stateBehindKind", "(I)I"⟩
abbrev cX1_stateBehindPart : ByteArray := prog_3_method_11_code
def yX1_stateBehindPart : MethodName := ⟨RX1, "stateBehindPart", "(I)I"⟩
abbrev cX1_isFrom : ByteArray := prog_3_method_12_code
def yX1_isFrom : MethodName := ⟨RX1, "isFrom", "(III)Z"⟩
def RX2 : String := "SewingPiles$Piles"
def TX2 : u_T := fun k => match k with
  | 0 => ("SewingPiles$Piles", "heights", "[I", true)
  | _ => ("SewingPiles$Piles", "places", "[[I", true)
def tyX2 : Nat → FieldType := fun k => match k with
  | 0 => .array .int
  | _ => .array (.array .int)
abbrev wsX20 : List Cond := u_ws RX2 TX2 2
theorem nmX2 : ∀ a, a < 2 → ∀ b, b < 2 → a ≠ b → (TX2 a).2.1 ≠ (TX2 b).2.1 := by decide +kernel
theorem tyX2_ok : ∀ k, k < 2 → parseFieldDescriptor (TX2 k).2.2.1 = some (tyX2 k) := by decide +kernel
abbrev cX2_init : ByteArray := prog_4_method_1_code
def yX2_init : MethodName := ⟨RX2, "<init>", "()V"⟩
abbrev cX2_copyFrom : ByteArray := prog_4_method_2_code
def yX2_copyFrom : MethodName := ⟨RX2, "copyFrom", "(LSewingPiles$Piles;)V"⟩
abbrev cX2_height : ByteArray := prog_4_method_3_code
def yX2_height : MethodName := ⟨RX2, "height", "(I)I"⟩
abbrev cX2_at : ByteArray := prog_4_method_4_code
def yX2_at : MethodName := ⟨RX2, "at", "(II)I"⟩
abbrev cX2_putNear : ByteArray := prog_4_method_5_code
def yX2_putNear : MethodName := ⟨RX2, "putNear", "(II)V"⟩
abbrev cX2_takeNear : ByteArray := prog_4_method_6_code
def yX2_takeNear : MethodName := ⟨RX2, "takeNear", "(I)I"⟩
abbrev cX2_takeFar : ByteArray := prog_4_method_7_code
def yX2_takeFar : MethodName := ⟨RX2, "takeFar", "(I)I"⟩
def RX3 : String := "SewingPiles$Room"
def TX3 : u_T := fun k => match k with
  | 0 => ("SewingPiles$Room", "minutes", "I", false)
  | 1 => ("SewingPiles$Room", "staff", "I", false)
  | 2 => ("SewingPiles$Room", "taken", "I", false)
  | 3 => ("SewingPiles$Room", "divisions", "I", false)
  | 4 => ("SewingPiles$Room", "settings", "[I", true)
  | 5 => ("SewingPiles$Room", "speeds", "[I", true)
  | 6 => ("SewingPiles$Room", "hands", "[I", true)
  | 7 => ("SewingPiles$Room", "misses", "[I", true)
  | 8 => ("SewingPiles$Room", "asleep", "[Z", true)
  | 9 => ("SewingPiles$Room", "sewn", "[I", true)
  | 10 => ("SewingPiles$Room", "takenFromOthers", "[I", true)
  | 11 => ("SewingPiles$Room", "minutesSlept", "[I", true)
  | 12 => ("SewingPiles$Room", "allMisses", "[I", true)
  | 13 => ("SewingPiles$Room", "piles", "LSewingPiles$Piles;", true)
  | _ => ("SewingPiles$Room", "shirts", "LSewingPiles$Shirts;", true)
def tyX3 : Nat → FieldType := fun k => match k with
  | 0 => .int
  | 1 => .int
  | 2 => .int
  | 3 => .int
  | 4 => .array .int
  | 5 => .array .int
  | 6 => .array .int
  | 7 => .array .int
  | 8 => .array .boolean
  | 9 => .array .int
  | 10 => .array .int
  | 11 => .array .int
  | 12 => .array .int
  | 13 => .object "SewingPiles$Piles"
  | _ => .object "SewingPiles$Shirts"
abbrev wsX30 : List Cond := u_ws RX3 TX3 15
theorem nmX3 : ∀ a, a < 15 → ∀ b, b < 15 → a ≠ b → (TX3 a).2.1 ≠ (TX3 b).2.1 := by decide +kernel
theorem tyX3_ok : ∀ k, k < 15 → parseFieldDescriptor (TX3 k).2.2.1 = some (tyX3 k) := by decide +kernel
abbrev cX3_init : ByteArray := prog_5_method_1_code
def yX3_init : MethodName := ⟨RX3, "<init>", "()V"⟩
abbrev cX3_copyFrom : ByteArray := prog_5_method_2_code
def yX3_copyFrom : MethodName := ⟨RX3, "copyFrom", "(LSewingPiles$Room;)V"⟩
abbrev cX3_hasSeamstress : ByteArray := prog_5_method_3_code
def yX3_hasSeamstress : MethodName := ⟨RX3, "hasSeamstress", "(I)Z"⟩
abbrev cX3_addSeamstress : ByteArray := prog_5_method_4_code
def yX3_addSeamstress : MethodName := ⟨RX3, "addSeamstress", "(I)I"⟩
abbrev cX3_changeSpeed : ByteArray := prog_5_method_5_code
def yX3_changeSpeed : MethodName := ⟨RX3, "changeSpeed", "(II)I"⟩
abbrev cX3_rouse : ByteArray := prog_5_method_6_code
def yX3_rouse : MethodName := ⟨RX3, "rouse", "(I)I"⟩
abbrev cX3_canLayOnto : ByteArray := prog_5_method_7_code
def yX3_canLayOnto : MethodName := ⟨RX3, "canLayOnto", "(I)Z"⟩
abbrev cX3_layNewShirt : ByteArray := prog_5_method_8_code
def yX3_layNewShirt : MethodName := ⟨RX3, "layNewShirt", "(II)I"⟩
abbrev cX3_wakeFirstSleeper : ByteArray := prog_5_method_9_code
def yX3_wakeFirstSleeper : MethodName := ⟨RX3, "wakeFirstSleeper", "()V"⟩
abbrev cX3_passMinutes : ByteArray := prog_5_method_10_code
def yX3_passMinutes : MethodName := ⟨RX3, "passMinutes", "(I)V"⟩
abbrev cX3_passMinute : ByteArray := prog_5_method_11_code
def yX3_passMinute : MethodName := ⟨RX3, "passMinute", "(Z)V"⟩
abbrev cX3_act : ByteArray := prog_5_method_12_code
def yX3_act : MethodName := ⟨RX3, "act", "(IZ)I"⟩
abbrev cX3_sew : ByteArray := prog_5_method_13_code
def yX3_sew : MethodName := ⟨RX3, "sew", "(I)V"⟩
abbrev cX3_miss : ByteArray := prog_5_method_14_code
def yX3_miss : MethodName := ⟨RX3, "miss", "(I)V"⟩
abbrev cX3_takeIntoHand : ByteArray := prog_5_method_15_code
def yX3_takeIntoHand : MethodName := ⟨RX3, "takeIntoHand", "(II)V"⟩
abbrev cX3_chosenPile : ByteArray := prog_5_method_16_code
def yX3_chosenPile : MethodName := ⟨RX3, "chosenPile", "(I)I"⟩
abbrev cX3_canBeTakenFrom : ByteArray := prog_5_method_17_code
def yX3_canBeTakenFrom : MethodName := ⟨RX3, "canBeTakenFrom", "(I)Z"⟩
abbrev cX3_merit : ByteArray := prog_5_method_18_code
def yX3_merit : MethodName := ⟨RX3, "merit", "(II)I"⟩
abbrev cX3_minutesUntilDone : ByteArray := prog_5_method_19_code
def yX3_minutesUntilDone : MethodName := ⟨RX3, "minutesUntilDone", "(Z)I"⟩
abbrev cX3_seamstressNumber : ByteArray := prog_5_method_20_code
def yX3_seamstressNumber : MethodName := ⟨RX3, "seamstressNumber", "(II)I"⟩
abbrev cX3_countedNumber : ByteArray := prog_5_method_21_code
def yX3_countedNumber : MethodName := ⟨RX3, "countedNumber", "(I)I"⟩
abbrev cX3_load : ByteArray := prog_5_method_22_code
def yX3_load : MethodName := ⟨RX3, "load", "(I)I"⟩
abbrev cX3_sewnShirts : ByteArray := prog_5_method_23_code
def yX3_sewnShirts : MethodName := ⟨RX3, "sewnShirts", "()I"⟩
abbrev cX3_fullHands : ByteArray := prog_5_method_24_code
def yX3_fullHands : MethodName := ⟨RX3, "fullHands", "()I"⟩
abbrev cX3_sleepers : ByteArray := prog_5_method_25_code
def yX3_sleepers : MethodName := ⟨RX3, "sleepers", "()I"⟩
abbrev cX3_total : ByteArray := prog_5_method_26_code
def yX3_total : MethodName := ⟨RX3, "total", "([I)I"⟩
def RX4 : String := "SewingPiles$Shirts"
def TX4 : u_T := fun k => match k with
  | 0 => ("SewingPiles$Shirts", "came", "I", false)
  | 1 => ("SewingPiles$Shirts", "work", "[I", true)
  | 2 => ("SewingPiles$Shirts", "where", "[I", true)
  | _ => ("SewingPiles$Shirts", "whose", "[I", true)
def tyX4 : Nat → FieldType := fun k => match k with
  | 0 => .int
  | 1 => .array .int
  | 2 => .array .int
  | _ => .array .int
abbrev wsX40 : List Cond := u_ws RX4 TX4 4
theorem nmX4 : ∀ a, a < 4 → ∀ b, b < 4 → a ≠ b → (TX4 a).2.1 ≠ (TX4 b).2.1 := by decide +kernel
theorem tyX4_ok : ∀ k, k < 4 → parseFieldDescriptor (TX4 k).2.2.1 = some (tyX4 k) := by decide +kernel
abbrev cX4_init : ByteArray := prog_6_method_1_code
def yX4_init : MethodName := ⟨RX4, "<init>", "()V"⟩
abbrev cX4_copyFrom : ByteArray := prog_6_method_2_code
def yX4_copyFrom : MethodName := ⟨RX4, "copyFrom", "(LSewingPiles$Shirts;)V"⟩
abbrev cX4_has : ByteArray := prog_6_method_3_code
def yX4_has : MethodName := ⟨RX4, "has", "(I)Z"⟩
abbrev cX4_add : ByteArray := prog_6_method_4_code
def yX4_add : MethodName := ⟨RX4, "add", "(II)I"⟩
abbrev cX4_workOf : ByteArray := prog_6_method_5_code
def yX4_workOf : MethodName := ⟨RX4, "workOf", "(I)I"⟩
abbrev cX4_setWork : ByteArray := prog_6_method_6_code
def yX4_setWork : MethodName := ⟨RX4, "setWork", "(II)V"⟩
abbrev cX4_move : ByteArray := prog_6_method_7_code
def yX4_move : MethodName := ⟨RX4, "move", "(III)V"⟩
abbrev cX4_number : ByteArray := prog_6_method_8_code
def yX4_number : MethodName := ⟨RX4, "number", "(II)I"⟩
abbrev cX4_workLeft : ByteArray := prog_6_method_9_code
def yX4_workLeft : MethodName := ⟨RX4, "workLeft", "()I"⟩
def RX5 : String := "SewingPiles"
def TX5 : u_T := fun k => match k with
  | 0 => ("SewingPiles", "room", "LSewingPiles$Room;", true)
  | 1 => ("SewingPiles", "snapshot", "LSewingPiles$Room;", true)
  | 2 => ("SewingPiles", "trial", "LSewingPiles$Room;", true)
  | 3 => ("SewingPiles", "history", "LSewingPiles$History;", true)
  | 4 => ("SewingPiles", "text", "LSewingPiles$OrderText;", true)
  | _ => ("SewingPiles", "hasSnapshot", "Z", false)
def tyX5 : Nat → FieldType := fun k => match k with
  | 0 => .object "SewingPiles$Room"
  | 1 => .object "SewingPiles$Room"
  | 2 => .object "SewingPiles$Room"
  | 3 => .object "SewingPiles$History"
  | 4 => .object "SewingPiles$OrderText"
  | _ => .boolean
abbrev wsX50 : List Cond := u_ws RX5 TX5 6
theorem nmX5 : ∀ a, a < 6 → ∀ b, b < 6 → a ≠ b → (TX5 a).2.1 ≠ (TX5 b).2.1 := by decide +kernel
theorem tyX5_ok : ∀ k, k < 6 → parseFieldDescriptor (TX5 k).2.2.1 = some (tyX5 k) := by decide +kernel
abbrev cX5_init : ByteArray := prog_1_method_1_code
def yX5_init : MethodName := ⟨RX5, "<init>", "()V"⟩
abbrev cX5_hire : ByteArray := prog_1_method_2_code
def yX5_hire : MethodName := ⟨RX5, "hire", "(I)I"⟩
abbrev cX5_speed : ByteArray := prog_1_method_3_code
def yX5_speed : MethodName := ⟨RX5, "speed", "(II)I"⟩
abbrev cX5_lay : ByteArray := prog_1_method_4_code
def yX5_lay : MethodName := ⟨RX5, "lay", "(II)I"⟩
abbrev cX5_wake : ByteArray := prog_1_method_5_code
def yX5_wake : MethodName := ⟨RX5, "wake", "(I)I"⟩
abbrev cX5_pass : ByteArray := prog_1_method_6_code
def yX5_pass : MethodName := ⟨RX5, "pass", "(I)I"⟩
abbrev cX5_set : ByteArray := prog_1_method_7_code
def yX5_set : MethodName := ⟨RX5, "set", "(II)I"⟩
abbrev cX5_append : ByteArray := prog_1_method_8_code
def yX5_append : MethodName := ⟨RX5, "append", "(I)I"⟩
abbrev cX5_clearBuffer : ByteArray := prog_1_method_9_code
def yX5_clearBuffer : MethodName := ⟨RX5, "clearBuffer", "()I"⟩
abbrev cX5_firstError : ByteArray := prog_1_method_10_code
def yX5_firstError : MethodName := ⟨RX5, "firstError", "()I"⟩
abbrev cX5_obey : ByteArray := prog_1_method_11_code
def yX5_obey : MethodName := ⟨RX5, "obey", "()I"⟩
abbrev cX5_keep : ByteArray := prog_1_method_12_code
def yX5_keep : MethodName := ⟨RX5, "keep", "()I"⟩
abbrev cX5_goBack : ByteArray := prog_1_method_13_code
def yX5_goBack : MethodName := ⟨RX5, "goBack", "()I"⟩
abbrev cX5_undo : ByteArray := prog_1_method_14_code
def yX5_undo : MethodName := ⟨RX5, "undo", "()I"⟩
abbrev cX5_seamstress : ByteArray := prog_1_method_15_code
def yX5_seamstress : MethodName := ⟨RX5, "seamstress", "(II)I"⟩
abbrev cX5_pile : ByteArray := prog_1_method_16_code
def yX5_pile : MethodName := ⟨RX5, "pile", "(II)I"⟩
abbrev cX5_shirt : ByteArray := prog_1_method_17_code
def yX5_shirt : MethodName := ⟨RX5, "shirt", "(II)I"⟩
abbrev cX5_count : ByteArray := prog_1_method_18_code
def yX5_count : MethodName := ⟨RX5, "count", "(I)I"⟩
abbrev cX5_setting : ByteArray := prog_1_method_19_code
def yX5_setting : MethodName := ⟨RX5, "setting", "(I)I"⟩
abbrev cX5_choice : ByteArray := prog_1_method_20_code
def yX5_choice : MethodName := ⟨RX5, "choice", "(I)I"⟩
abbrev cX5_doneIn : ByteArray := prog_1_method_21_code
def yX5_doneIn : MethodName := ⟨RX5, "doneIn", "()I"⟩
abbrev cX5_doneAlone : ByteArray := prog_1_method_22_code
def yX5_doneAlone : MethodName := ⟨RX5, "doneAlone", "()I"⟩
abbrev cX5_doneWith : ByteArray := prog_1_method_23_code
def yX5_doneWith : MethodName := ⟨RX5, "doneWith", "(I)I"⟩
abbrev cX5_ifPassed : ByteArray := prog_1_method_24_code
def yX5_ifPassed : MethodName := ⟨RX5, "ifPassed", "(II)I"⟩
abbrev cX5_takenShare : ByteArray := prog_1_method_25_code
def yX5_takenShare : MethodName := ⟨RX5, "takenShare", "()D"⟩
abbrev cX5_evenness : ByteArray := prog_1_method_26_code
def yX5_evenness : MethodName := ⟨RX5, "evenness", "()F"⟩
abbrev cX5_digest : ByteArray := prog_1_method_27_code
def yX5_digest : MethodName := ⟨RX5, "digest", "()J"⟩
abbrev cX5_addSeamstresses : ByteArray := prog_1_method_28_code
def yX5_addSeamstresses : MethodName := ⟨RX5, "addSeamstresses", "(J)J"⟩
abbrev cX5_addShirts : ByteArray := prog_1_method_29_code
def yX5_addShirts : MethodName := ⟨RX5, "addShirts", "(J)J"⟩
abbrev cX5_addText : ByteArray := prog_1_method_30_code
def yX5_addText : MethodName := ⟨RX5, "addText", "(J)J"⟩
abbrev cX5_bitsOfDouble : ByteArray := prog_1_method_31_code
def yX5_bitsOfDouble : MethodName := ⟨RX5, "bitsOfDouble", "(D)J"⟩
abbrev cX5_bitsOfFloat : ByteArray := prog_1_method_32_code
def yX5_bitsOfFloat : MethodName := ⟨RX5, "bitsOfFloat", "(F)I"⟩
abbrev cX5_checkSeamstress : ByteArray := prog_1_method_33_code
def yX5_checkSeamstress : MethodName := ⟨RX5, "checkSeamstress", "(I)V"⟩
abbrev cX5_checkSpeed : ByteArray := prog_1_method_34_code
def yX5_checkSpeed : MethodName := ⟨RX5, "checkSpeed", "(I)V"⟩
abbrev cX5_checkSetting : ByteArray := prog_1_method_35_code
def yX5_checkSetting : MethodName := ⟨RX5, "checkSetting", "(I)V"⟩
abbrev cX5_doPart : ByteArray := prog_1_method_36_code
def yX5_doPart : MethodName := ⟨RX5, "doPart", "(I)Z"⟩
def RX6 : String := "SewingPilesModel"
def TX6 : u_T := fun k => match k with
  | 0 => ("SewingPilesModel", "thrown", "I", false)
  | 1 => ("SewingPilesModel", "s", "[I", true)
  | 2 => ("SewingPilesModel", "aside", "[I", true)
  | 3 => ("SewingPilesModel", "saved", "[I", true)
  | 4 => ("SewingPilesModel", "savedMany", "I", false)
  | 5 => ("SewingPilesModel", "snapshot", "[I", true)
  | 6 => ("SewingPilesModel", "hasSnapshot", "Z", false)
  | 7 => ("SewingPilesModel", "buffer", "[I", true)
  | 8 => ("SewingPilesModel", "length", "I", false)
  | 9 => ("SewingPilesModel", "isAlone", "Z", false)
  | 10 => ("SewingPilesModel", "at", "I", false)
  | 11 => ("SewingPilesModel", "isWell", "Z", false)
  | 12 => ("SewingPilesModel", "read", "[I", true)
  | 13 => ("SewingPilesModel", "readMany", "I", false)
  | _ => ("SewingPilesModel", "hash", "J", false)
def tyX6 : Nat → FieldType := fun k => match k with
  | 0 => .int
  | 1 => .array .int
  | 2 => .array .int
  | 3 => .array .int
  | 4 => .int
  | 5 => .array .int
  | 6 => .boolean
  | 7 => .array .int
  | 8 => .int
  | 9 => .boolean
  | 10 => .int
  | 11 => .boolean
  | 12 => .array .int
  | 13 => .int
  | _ => .long
abbrev wsX60 : List Cond := u_ws RX6 TX6 15
theorem nmX6 : ∀ a, a < 15 → ∀ b, b < 15 → a ≠ b → (TX6 a).2.1 ≠ (TX6 b).2.1 := by decide +kernel
theorem tyX6_ok : ∀ k, k < 15 → parseFieldDescriptor (TX6 k).2.2.1 = some (tyX6 k) := by decide +kernel
abbrev cX6_init : ByteArray := prog_8_method_1_code
def yX6_init : MethodName := ⟨RX6, "<init>", "()V"⟩
abbrev cX6_thrown : ByteArray := prog_8_method_2_code
def yX6_thrown : MethodName := ⟨RX6, "thrown", "()I"⟩
abbrev cX6_in : ByteArray := prog_8_method_3_code
def yX6_in : MethodName := ⟨RX6, "in", "(III)Z"⟩
abbrev cX6_fails : ByteArray := prog_8_method_4_code
def yX6_fails : MethodName := ⟨RX6, "fails", "(I)I"⟩
abbrev cX6_of : ByteArray := prog_8_method_5_code
def yX6_of : MethodName := ⟨RX6, "of", "(II)I"⟩
abbrev cX6_lays : ByteArray := prog_8_method_6_code
def yX6_lays : MethodName := ⟨RX6, "lays", "(III)V"⟩
abbrev cX6_grows : ByteArray := prog_8_method_7_code
def yX6_grows : MethodName := ⟨RX6, "grows", "(II)V"⟩
abbrev cX6_onPile : ByteArray := prog_8_method_8_code
def yX6_onPile : MethodName := ⟨RX6, "onPile", "(II)I"⟩
abbrev cX6_ofShirt : ByteArray := prog_8_method_9_code
def yX6_ofShirt : MethodName := ⟨RX6, "ofShirt", "(II)I"⟩
abbrev cX6_layShirt : ByteArray := prog_8_method_10_code
def yX6_layShirt : MethodName := ⟨RX6, "layShirt", "(III)V"⟩
abbrev cX6_isWho : ByteArray := prog_8_method_11_code
def yX6_isWho : MethodName := ⟨RX6, "isWho", "(I)Z"⟩
abbrev cX6_saves : ByteArray := prog_8_method_12_code
def yX6_saves : MethodName := ⟨RX6, "saves", "()V"⟩
abbrev cX6_putAside : ByteArray := prog_8_method_13_code
def yX6_putAside : MethodName := ⟨RX6, "putAside", "()V"⟩
abbrev cX6_takeBack : ByteArray := prog_8_method_14_code
def yX6_takeBack : MethodName := ⟨RX6, "takeBack", "()V"⟩
abbrev cX6_wakesLowest : ByteArray := prog_8_method_15_code
def yX6_wakesLowest : MethodName := ⟨RX6, "wakesLowest", "()V"⟩
abbrev cX6_comes : ByteArray := prog_8_method_16_code
def yX6_comes : MethodName := ⟨RX6, "comes", "(II)I"⟩
abbrev cX6_takes : ByteArray := prog_8_method_17_code
def yX6_takes : MethodName := ⟨RX6, "takes", "(II)V"⟩
abbrev cX6_takesNear : ByteArray := prog_8_method_18_code
def yX6_takesNear : MethodName := ⟨RX6, "takesNear", "(I)V"⟩
abbrev cX6_takesFar : ByteArray := prog_8_method_19_code
def yX6_takesFar : MethodName := ⟨RX6, "takesFar", "(II)V"⟩
abbrev cX6_canTakeFrom : ByteArray := prog_8_method_20_code
def yX6_canTakeFrom : MethodName := ⟨RX6, "canTakeFrom", "(II)Z"⟩
abbrev cX6_isAhead : ByteArray := prog_8_method_21_code
def yX6_isAhead : MethodName := ⟨RX6, "isAhead", "(III)Z"⟩
abbrev cX6_chosen : ByteArray := prog_8_method_22_code
def yX6_chosen : MethodName := ⟨RX6, "chosen", "(I)I"⟩
abbrev cX6_sews : ByteArray := prog_8_method_23_code
def yX6_sews : MethodName := ⟨RX6, "sews", "(I)V"⟩
abbrev cX6_misses : ByteArray := prog_8_method_24_code
def yX6_misses : MethodName := ⟨RX6, "misses", "(I)V"⟩
abbrev cX6_acts : ByteArray := prog_8_method_25_code
def yX6_acts : MethodName := ⟨RX6, "acts", "(I)V"⟩
abbrev cX6_passesOne : ByteArray := prog_8_method_26_code
def yX6_passesOne : MethodName := ⟨RX6, "passesOne", "()V"⟩
abbrev cX6_passesAll : ByteArray := prog_8_method_27_code
def yX6_passesAll : MethodName := ⟨RX6, "passesAll", "(I)V"⟩
abbrev cX6_sumOf : ByteArray := prog_8_method_28_code
def yX6_sumOf : MethodName := ⟨RX6, "sumOf", "(I)I"⟩
abbrev cX6_workLeft : ByteArray := prog_8_method_29_code
def yX6_workLeft : MethodName := ⟨RX6, "workLeft", "()I"⟩
abbrev cX6_shirtsThat : ByteArray := prog_8_method_30_code
def yX6_shirtsThat : MethodName := ⟨RX6, "shirtsThat", "(I)I"⟩
abbrev cX6_hires : ByteArray := prog_8_method_31_code
def yX6_hires : MethodName := ⟨RX6, "hires", "(I)I"⟩
abbrev cX6_hire : ByteArray := prog_8_method_32_code
def yX6_hire : MethodName := ⟨RX6, "hire", "(I)I"⟩
abbrev cX6_speed : ByteArray := prog_8_method_33_code
def yX6_speed : MethodName := ⟨RX6, "speed", "(II)I"⟩
abbrev cX6_canLay : ByteArray := prog_8_method_34_code
def yX6_canLay : MethodName := ⟨RX6, "canLay", "(I)Z"⟩
abbrev cX6_lay : ByteArray := prog_8_method_35_code
def yX6_lay : MethodName := ⟨RX6, "lay", "(II)I"⟩
abbrev cX6_wakes : ByteArray := prog_8_method_36_code
def yX6_wakes : MethodName := ⟨RX6, "wakes", "(I)I"⟩
abbrev cX6_wake : ByteArray := prog_8_method_37_code
def yX6_wake : MethodName := ⟨RX6, "wake", "(I)I"⟩
abbrev cX6_pass : ByteArray := prog_8_method_38_code
def yX6_pass : MethodName := ⟨RX6, "pass", "(I)I"⟩
abbrev cX6_set : ByteArray := prog_8_method_39_code
def yX6_set : MethodName := ⟨RX6, "set", "(II)I"⟩
abbrev cX6_append : ByteArray := prog_8_method_40_code
def yX6_append : MethodName := ⟨RX6, "append", "(I)I"⟩
abbrev cX6_clearBuffer : ByteArray := prog_8_method_41_code
def yX6_clearBuffer : MethodName := ⟨RX6, "clearBuffer", "()I"⟩
abbrev cX6_sign : ByteArray := prog_8_method_42_code
def yX6_sign : MethodName := ⟨RX6, "sign", "()I"⟩
abbrev cX6_digit : ByteArray := prog_8_method_43_code
def yX6_digit : MethodName := ⟨RX6, "digit", "(II)I"⟩
abbrev cX6_number : ByteArray := prog_8_method_44_code
def yX6_number : MethodName := ⟨RX6, "number", "()I"⟩
abbrev cX6_readsOrder : ByteArray := prog_8_method_45_code
def yX6_readsOrder : MethodName := ⟨RX6, "readsOrder", "()V"⟩
abbrev cX6_readsAll : ByteArray := prog_8_method_46_code
def yX6_readsAll : MethodName := ⟨RX6, "readsAll", "()V"⟩
abbrev cX6_firstError : ByteArray := prog_8_method_47_code
def yX6_firstError : MethodName := ⟨RX6, "firstError", "()I"⟩
abbrev cX6_obeys : ByteArray := prog_8_method_48_code
def yX6_obeys : MethodName := ⟨RX6, "obeys", "(I)Z"⟩
abbrev cX6_obey : ByteArray := prog_8_method_49_code
def yX6_obey : MethodName := ⟨RX6, "obey", "()I"⟩
abbrev cX6_keep : ByteArray := prog_8_method_50_code
def yX6_keep : MethodName := ⟨RX6, "keep", "()I"⟩
abbrev cX6_goBack : ByteArray := prog_8_method_51_code
def yX6_goBack : MethodName := ⟨RX6, "goBack", "()I"⟩
abbrev cX6_undo : ByteArray := prog_8_method_52_code
def yX6_undo : MethodName := ⟨RX6, "undo", "()I"⟩
abbrev cX6_load : ByteArray := prog_8_method_53_code
def yX6_load : MethodName := ⟨RX6, "load", "(I)I"⟩
abbrev cX6_tellsWho : ByteArray := prog_8_method_54_code
def yX6_tellsWho : MethodName := ⟨RX6, "tellsWho", "(II)I"⟩
abbrev cX6_seamstress : ByteArray := prog_8_method_55_code
def yX6_seamstress : MethodName := ⟨RX6, "seamstress", "(II)I"⟩
abbrev cX6_pile : ByteArray := prog_8_method_56_code
def yX6_pile : MethodName := ⟨RX6, "pile", "(II)I"⟩
abbrev cX6_shirt : ByteArray := prog_8_method_57_code
def yX6_shirt : MethodName := ⟨RX6, "shirt", "(II)I"⟩
abbrev cX6_tellsCount : ByteArray := prog_8_method_58_code
def yX6_tellsCount : MethodName := ⟨RX6, "tellsCount", "(I)I"⟩
abbrev cX6_count : ByteArray := prog_8_method_59_code
def yX6_count : MethodName := ⟨RX6, "count", "(I)I"⟩
abbrev cX6_setting : ByteArray := prog_8_method_60_code
def yX6_setting : MethodName := ⟨RX6, "setting", "(I)I"⟩
abbrev cX6_choice : ByteArray := prog_8_method_61_code
def yX6_choice : MethodName := ⟨RX6, "choice", "(I)I"⟩
abbrev cX6_until : ByteArray := prog_8_method_62_code
def yX6_until : MethodName := ⟨RX6, "until", "()I"⟩
abbrev cX6_done : ByteArray := prog_8_method_63_code
def yX6_done : MethodName := ⟨RX6, "done", "(ZI)I"⟩
abbrev cX6_doneIn : ByteArray := prog_8_method_64_code
def yX6_doneIn : MethodName := ⟨RX6, "doneIn", "()I"⟩
abbrev cX6_doneAlone : ByteArray := prog_8_method_65_code
def yX6_doneAlone : MethodName := ⟨RX6, "doneAlone", "()I"⟩
abbrev cX6_doneWith : ByteArray := prog_8_method_66_code
def yX6_doneWith : MethodName := ⟨RX6, "doneWith", "(I)I"⟩
abbrev cX6_would : ByteArray := prog_8_method_67_code
def yX6_would : MethodName := ⟨RX6, "would", "(II)I"⟩
abbrev cX6_ifPassed : ByteArray := prog_8_method_68_code
def yX6_ifPassed : MethodName := ⟨RX6, "ifPassed", "(II)I"⟩
abbrev cX6_share : ByteArray := prog_8_method_69_code
def yX6_share : MethodName := ⟨RX6, "share", "()D"⟩
abbrev cX6_takenShare : ByteArray := prog_8_method_70_code
def yX6_takenShare : MethodName := ⟨RX6, "takenShare", "()D"⟩
abbrev cX6_even : ByteArray := prog_8_method_71_code
def yX6_even : MethodName := ⟨RX6, "even", "()F"⟩
abbrev cX6_evenness : ByteArray := prog_8_method_72_code
def yX6_evenness : MethodName := ⟨RX6, "evenness", "()F"⟩
abbrev cX6_hashes : ByteArray := prog_8_method_73_code
def yX6_hashes : MethodName := ⟨RX6, "hashes", "(J)V"⟩
abbrev cX6_hashesWho : ByteArray := prog_8_method_74_code
def yX6_hashesWho : MethodName := ⟨RX6, "hashesWho", "(I)V"⟩
abbrev cX6_digest : ByteArray := prog_8_method_75_code
def yX6_digest : MethodName := ⟨RX6, "digest", "()J"⟩
def RJxe99ae : String := "java/lang/Double"
def TJxe99ae : u_T := fun k => match k with
  | _ => ("", "", "", false)
def tyJxe99ae : Nat → FieldType := fun k => match k with
  | _ => .int
abbrev wsJxe99ae0 : List Cond := u_ws RJxe99ae TJxe99ae 0
theorem nmJxe99ae : ∀ a, a < 0 → ∀ b, b < 0 → a ≠ b → (TJxe99ae a).2.1 ≠ (TJxe99ae b).2.1 := by decide +kernel
theorem tyJxe99ae_ok : ∀ k, k < 0 → parseFieldDescriptor (TJxe99ae k).2.2.1 = some (tyJxe99ae k) := by decide +kernel
abbrev cJxe99ae_isNaN_b9ae7 : ByteArray := prog_9_method_6_code
def yJxe99ae_isNaN_b9ae7 : MethodName := ⟨RJxe99ae, "isNaN", "(D)Z"⟩
abbrev cJxe99ae_doubleToLongBits_ccdee : ByteArray := prog_9_method_23_code
def yJxe99ae_doubleToLongBits_ccdee : MethodName := ⟨RJxe99ae, "doubleToLongBits", "(D)J"⟩
def RJxf58ca : String := "java/lang/Float"
def TJxf58ca : u_T := fun k => match k with
  | _ => ("", "", "", false)
def tyJxf58ca : Nat → FieldType := fun k => match k with
  | _ => .int
abbrev wsJxf58ca0 : List Cond := u_ws RJxf58ca TJxf58ca 0
theorem nmJxf58ca : ∀ a, a < 0 → ∀ b, b < 0 → a ≠ b → (TJxf58ca a).2.1 ≠ (TJxf58ca b).2.1 := by decide +kernel
theorem tyJxf58ca_ok : ∀ k, k < 0 → parseFieldDescriptor (TJxf58ca k).2.2.1 = some (tyJxf58ca k) := by decide +kernel
abbrev cJxf58ca_isNaN_12338 : ByteArray := prog_11_method_6_code
def yJxf58ca_isNaN_12338 : MethodName := ⟨RJxf58ca, "isNaN", "(F)Z"⟩
abbrev cJxf58ca_floatToIntBits_5c35a : ByteArray := prog_11_method_24_code
def yJxf58ca_floatToIntBits_5c35a : MethodName := ⟨RJxf58ca, "floatToIntBits", "(F)I"⟩
def RJ0 : String := "java/lang/String"
def TJ0 : u_T := fun k => match k with
  | _ => ("", "", "", false)
def tyJ0 : Nat → FieldType := fun k => match k with
  | _ => .int
abbrev wsJ00 : List Cond := u_ws RJ0 TJ0 0
theorem nmJ0 : ∀ a, a < 0 → ∀ b, b < 0 → a ≠ b → (TJ0 a).2.1 ≠ (TJ0 b).2.1 := by decide +kernel
theorem tyJ0_ok : ∀ k, k < 0 → parseFieldDescriptor (TJ0 k).2.2.1 = some (tyJ0 k) := by decide +kernel
def RL : String := "SewingPilesLaw"
abbrev cL_hire : ByteArray := method_3_code
def yL_hire : MethodName := ⟨RL, "hire", "(LSewingPiles;I[J)I"⟩
abbrev cL_speed : ByteArray := method_4_code
def yL_speed : MethodName := ⟨RL, "speed", "(LSewingPiles;II[J)I"⟩
abbrev cL_lay : ByteArray := method_5_code
def yL_lay : MethodName := ⟨RL, "lay", "(LSewingPiles;II[J)I"⟩
abbrev cL_wake : ByteArray := method_6_code
def yL_wake : MethodName := ⟨RL, "wake", "(LSewingPiles;I[J)I"⟩
abbrev cL_pass : ByteArray := method_7_code
def yL_pass : MethodName := ⟨RL, "pass", "(LSewingPiles;I[J)I"⟩
abbrev cL_set : ByteArray := method_8_code
def yL_set : MethodName := ⟨RL, "set", "(LSewingPiles;II[J)I"⟩
abbrev cL_append : ByteArray := method_9_code
def yL_append : MethodName := ⟨RL, "append", "(LSewingPiles;I[J)I"⟩
abbrev cL_obey : ByteArray := method_10_code
def yL_obey : MethodName := ⟨RL, "obey", "(LSewingPiles;[J)I"⟩
abbrev cL_goBack : ByteArray := method_11_code
def yL_goBack : MethodName := ⟨RL, "goBack", "(LSewingPiles;[J)I"⟩
abbrev cL_undo : ByteArray := method_12_code
def yL_undo : MethodName := ⟨RL, "undo", "(LSewingPiles;[J)I"⟩
abbrev cL_seamstress : ByteArray := method_13_code
def yL_seamstress : MethodName := ⟨RL, "seamstress", "(LSewingPiles;II[J)I"⟩
abbrev cL_pile : ByteArray := method_14_code
def yL_pile : MethodName := ⟨RL, "pile", "(LSewingPiles;II[J)I"⟩
abbrev cL_shirt : ByteArray := method_15_code
def yL_shirt : MethodName := ⟨RL, "shirt", "(LSewingPiles;II[J)I"⟩
abbrev cL_count : ByteArray := method_16_code
def yL_count : MethodName := ⟨RL, "count", "(LSewingPiles;I[J)I"⟩
abbrev cL_setting : ByteArray := method_17_code
def yL_setting : MethodName := ⟨RL, "setting", "(LSewingPiles;I[J)I"⟩
abbrev cL_choice : ByteArray := method_18_code
def yL_choice : MethodName := ⟨RL, "choice", "(LSewingPiles;I[J)I"⟩
abbrev cL_doneWith : ByteArray := method_19_code
def yL_doneWith : MethodName := ⟨RL, "doneWith", "(LSewingPiles;I[J)I"⟩
abbrev cL_ifPassed : ByteArray := method_20_code
def yL_ifPassed : MethodName := ⟨RL, "ifPassed", "(LSewingPiles;II[J)I"⟩
abbrev cL_law : ByteArray := code
def yL_law : MethodName := ⟨RL, "law", "([I)Z"⟩
abbrev vwCl : List vw_C := [(RX0, TX0, 2), (RX1, TX1, 2), (RX2, TX2, 2), (RX3, TX3, 15), (RX4, TX4, 4), (RX5, TX5, 6), (RX6, TX6, 15)]
end
section
/-! ===== the tables of the abstract machine: methods, places of the pools, throws; each held against the words of the claim ===== -/
def sp_AW : List Cond := lw_tbl.filter goodWord
theorem sp_pick (ws : List Cond) (ps : List Nat) (hp : ws = ps.filterMap (fun i => lw_tbl[i]?)) (h : ws.all goodWord = true) : ∀ w ∈ ws, w ∈ sp_AW := by
  intro w hw
  have h1 := List.all_eq_true.mp h w hw
  rw [hp] at hw
  obtain ⟨i, -, hi⟩ := List.mem_filterMap.mp hw
  exact List.mem_filter.mpr ⟨List.mem_of_getElem? hi, h1⟩
theorem sp_pickT (ws : List Cond) (ps : List Nat) (hp : ws = ps.filterMap (fun i => lw_tbl[i]?)) : ∀ w ∈ ws, w ∈ lw_tbl := by
  intro w hw
  rw [hp] at hw
  obtain ⟨i, -, hi⟩ := List.mem_filterMap.mp hw
  exact List.mem_of_getElem? hi
-- a method: name, code, locals, what it returns, its table of handlers, the number of its class, of its arguments, frames and words that it needs, its kind (0 by its receiver, 1 static, 2 a constructor)
abbrev sp_E : Type := MethodName × ByteArray × Nat × Option FieldType × List (Nat × Nat × Nat × Nat) × Nat × Nat × Nat × Nat × Nat
def sp_T0 : List sp_E := [
  (yX0_init, cX0_init, 2, none, [], 0, 0, 3, 65, 2),
  (yX0_save, cX0_save, 3, none, [], 0, 1, 2, 45, 0),
  (yX0_restoreLatest, cX0_restoreLatest, 3, none, [], 0, 1, 2, 45, 0),
  (yX0_dropOldest, cX0_dropOldest, 3, none, [], 0, 0, 0, 0, 0),
  (yX1_init, cX1_init, 1, none, [], 1, 0, 1, 24, 2),
  (yX1_add, cX1_add, 2, none, [], 1, 1, 0, 0, 0),
  (yX1_empty, cX1_empty, 2, (some .int), [], 1, 0, 0, 0, 0),
  (yX1_codeAt, cX1_codeAt, 2, (some .int), [], 1, 1, 0, 0, 0),
  (yX1_indexOfError, cX1_indexOfError, 3, (some .int), [], 1, 0, 2, 43, 0),
  (yX1_isComplete, cX1_isComplete, 3, (some .boolean), [], 1, 0, 2, 43, 0),
  (yX1_startsPart, cX1_startsPart, 2, (some .boolean), [], 1, 1, 1, 21, 0),
  (yX1_numberAt, cX1_numberAt, 4, (some .int), [], 1, 1, 1, 22, 0),
  (yX1_stateBehind, cX1_stateBehind, 2, (some .int), [], 1, 2, 1, 22, 1),
  (yX1_stateBehindKind, cX1_stateBehindKind, 1, (some .int), [], 1, 1, 0, 0, 1),
  (yX1_stateBehindPart, cX1_stateBehindPart, 1, (some .int), [], 1, 1, 0, 0, 1),
  (yX1_isFrom, cX1_isFrom, 3, (some .boolean), [], 1, 3, 0, 0, 1),
  (yX2_init, cX2_init, 1, none, [], 2, 0, 1, 24, 2),
  (yX2_copyFrom, cX2_copyFrom, 4, none, [], 2, 1, 0, 0, 0),
  (yX2_height, cX2_height, 2, (some .int), [], 2, 1, 0, 0, 0),
  (yX2_at, cX2_at, 3, (some .int), [], 2, 2, 0, 0, 0),
  (yX2_putNear, cX2_putNear, 4, none, [], 2, 2, 0, 0, 0),
  (yX2_takeNear, cX2_takeNear, 3, (some .int), [], 2, 1, 0, 0, 0),
  (yX2_takeFar, cX2_takeFar, 4, (some .int), [], 2, 1, 0, 0, 0),
  (yX3_init, cX3_init, 2, none, [], 3, 0, 2, 44, 2),
  (yX3_copyFrom, cX3_copyFrom, 3, none, [], 3, 1, 1, 23, 0),
  (yX3_hasSeamstress, cX3_hasSeamstress, 2, (some .boolean), [], 3, 1, 0, 0, 0),
  (yX3_addSeamstress, cX3_addSeamstress, 2, (some .int), [], 3, 1, 0, 0, 0),
  (yX3_changeSpeed, cX3_changeSpeed, 4, (some .int), [], 3, 2, 1, 21, 0),
  (yX3_rouse, cX3_rouse, 3, (some .int), [], 3, 1, 1, 21, 0),
  (yX3_canLayOnto, cX3_canLayOnto, 2, (some .boolean), [], 3, 1, 1, 21, 0),
  (yX3_layNewShirt, cX3_layNewShirt, 4, (some .int), [], 3, 2, 1, 23, 0),
  (yX3_wakeFirstSleeper, cX3_wakeFirstSleeper, 2, none, [], 3, 0, 0, 0, 0),
  (yX3_passMinutes, cX3_passMinutes, 3, none, [], 3, 1, 5, 115, 0),
  (yX3_passMinute, cX3_passMinute, 4, none, [], 3, 1, 4, 92, 0),
  (yX3_act, cX3_act, 4, (some .int), [], 3, 2, 3, 69, 0),
  (yX3_sew, cX3_sew, 4, none, [], 3, 1, 2, 44, 0),
  (yX3_miss, cX3_miss, 2, none, [], 3, 1, 1, 21, 0),
  (yX3_takeIntoHand, cX3_takeIntoHand, 5, none, [], 3, 2, 2, 46, 0),
  (yX3_chosenPile, cX3_chosenPile, 6, (some .int), [], 3, 1, 2, 44, 0),
  (yX3_canBeTakenFrom, cX3_canBeTakenFrom, 3, (some .boolean), [], 3, 1, 1, 21, 0),
  (yX3_merit, cX3_merit, 3, (some .int), [], 3, 2, 1, 22, 0),
  (yX3_minutesUntilDone, cX3_minutesUntilDone, 3, (some .int), [], 3, 1, 5, 115, 0),
  (yX3_seamstressNumber, cX3_seamstressNumber, 3, (some .int), [], 3, 2, 2, 45, 0),
  (yX3_countedNumber, cX3_countedNumber, 2, (some .int), [], 3, 1, 2, 43, 0),
  (yX3_load, cX3_load, 4, (some .int), [], 3, 1, 1, 22, 0),
  (yX3_sewnShirts, cX3_sewnShirts, 1, (some .int), [], 3, 0, 1, 23, 0),
  (yX3_fullHands, cX3_fullHands, 3, (some .int), [], 3, 0, 0, 0, 0),
  (yX3_sleepers, cX3_sleepers, 3, (some .int), [], 3, 0, 0, 0, 0),
  (yX3_total, cX3_total, 4, (some .int), [], 3, 1, 0, 0, 0),
  (yX4_init, cX4_init, 1, none, [], 4, 0, 1, 24, 2),
  (yX4_copyFrom, cX4_copyFrom, 3, none, [], 4, 1, 0, 0, 0),
  (yX4_has, cX4_has, 2, (some .boolean), [], 4, 1, 0, 0, 0),
  (yX4_add, cX4_add, 3, (some .int), [], 4, 2, 0, 0, 0),
  (yX4_workOf, cX4_workOf, 2, (some .int), [], 4, 1, 0, 0, 0),
  (yX4_setWork, cX4_setWork, 3, none, [], 4, 2, 1, 21, 0),
  (yX4_move, cX4_move, 4, none, [], 4, 3, 1, 21, 0),
  (yX4_number, cX4_number, 3, (some .int), [], 4, 2, 1, 21, 0),
  (yX4_workLeft, cX4_workLeft, 3, (some .int), [], 4, 0, 0, 0, 0),
  (yX5_init, cX5_init, 1, none, [], 5, 0, 4, 86, 2),
  (yX5_hire, cX5_hire, 2, (some .int), [], 5, 1, 8, 120, 0),
  (yX5_speed, cX5_speed, 3, (some .int), [], 5, 2, 8, 121, 0),
  (yX5_lay, cX5_lay, 3, (some .int), [], 5, 2, 8, 121, 0),
  (yX5_wake, cX5_wake, 2, (some .int), [], 5, 1, 8, 121, 0),
  (yX5_pass, cX5_pass, 3, (some .int), [], 5, 1, 7, 137, 0),
  (yX5_set, cX5_set, 4, (some .int), [], 5, 2, 8, 120, 0),
  (yX5_append, cX5_append, 2, (some .int), [], 5, 1, 7, 100, 0),
  (yX5_clearBuffer, cX5_clearBuffer, 1, (some .int), [], 5, 0, 1, 21, 0),
  (yX5_firstError, cX5_firstError, 1, (some .int), [], 5, 0, 3, 65, 0),
  (yX5_obey, cX5_obey, 3, (some .int), [], 5, 0, 7, 160, 0),
  (yX5_keep, cX5_keep, 1, (some .int), [], 5, 0, 2, 45, 0),
  (yX5_goBack, cX5_goBack, 1, (some .int), [], 5, 0, 7, 100, 0),
  (yX5_undo, cX5_undo, 1, (some .int), [], 5, 0, 7, 100, 0),
  (yX5_seamstress, cX5_seamstress, 3, (some .int), [], 5, 2, 8, 121, 0),
  (yX5_pile, cX5_pile, 3, (some .int), [], 5, 2, 8, 121, 0),
  (yX5_shirt, cX5_shirt, 3, (some .int), [], 5, 2, 7, 100, 0),
  (yX5_count, cX5_count, 2, (some .int), [], 5, 1, 7, 100, 0),
  (yX5_setting, cX5_setting, 2, (some .int), [], 5, 1, 8, 120, 0),
  (yX5_choice, cX5_choice, 2, (some .int), [], 5, 1, 8, 121, 0),
  (yX5_doneIn, cX5_doneIn, 1, (some .int), [], 5, 0, 6, 137, 0),
  (yX5_doneAlone, cX5_doneAlone, 1, (some .int), [], 5, 0, 6, 137, 0),
  (yX5_doneWith, cX5_doneWith, 2, (some .int), [], 5, 1, 8, 137, 0),
  (yX5_ifPassed, cX5_ifPassed, 3, (some .int), [], 5, 2, 7, 137, 0),
  (yX5_takenShare, cX5_takenShare, 1, (some .double), [], 5, 0, 1, 23, 0),
  (yX5_evenness, cX5_evenness, 5, (some .float), [], 5, 0, 2, 45, 0),
  (yX5_digest, cX5_digest, 4, (some .long), [], 5, 0, 10, 170, 0),
  (yX5_addSeamstresses, cX5_addSeamstresses, 8, (some .long), [], 5, 1, 9, 143, 0),
  (yX5_addShirts, cX5_addShirts, 7, (some .long), [], 5, 1, 8, 122, 0),
  (yX5_addText, cX5_addText, 6, (some .long), [], 5, 1, 1, 21, 0),
  (yX5_bitsOfDouble, cX5_bitsOfDouble, 7, (some .long), [], 5, 1, 0, 0, 1),
  (yX5_bitsOfFloat, cX5_bitsOfFloat, 4, (some .int), [], 5, 1, 0, 0, 1),
  (yX5_checkSeamstress, cX5_checkSeamstress, 2, none, [], 5, 1, 7, 100, 0),
  (yX5_checkSpeed, cX5_checkSpeed, 1, none, [], 5, 1, 7, 100, 1),
  (yX5_checkSetting, cX5_checkSetting, 1, none, [], 5, 1, 7, 100, 1),
  (yX5_doPart, cX5_doPart, 4, (some .boolean), [], 5, 1, 6, 137, 0),
  (yX6_init, cX6_init, 1, none, [], 6, 0, 1, 24, 2),
  (yX6_thrown, cX6_thrown, 1, (some .int), [], 6, 0, 0, 0, 0),
  (yX6_in, cX6_in, 3, (some .boolean), [], 6, 3, 0, 0, 1),
  (yX6_fails, cX6_fails, 2, (some .int), [], 6, 1, 0, 0, 0),
  (yX6_of, cX6_of, 3, (some .int), [], 6, 2, 0, 0, 0),
  (yX6_lays, cX6_lays, 4, none, [], 6, 3, 0, 0, 0),
  (yX6_grows, cX6_grows, 3, none, [], 6, 2, 0, 0, 0),
  (yX6_onPile, cX6_onPile, 3, (some .int), [], 6, 2, 0, 0, 0),
  (yX6_ofShirt, cX6_ofShirt, 3, (some .int), [], 6, 2, 0, 0, 0),
  (yX6_layShirt, cX6_layShirt, 4, none, [], 6, 3, 0, 0, 0),
  (yX6_isWho, cX6_isWho, 2, (some .boolean), [], 6, 1, 1, 22, 0),
  (yX6_saves, cX6_saves, 2, none, [], 6, 0, 0, 0, 0),
  (yX6_putAside, cX6_putAside, 2, none, [], 6, 0, 0, 0, 0),
  (yX6_takeBack, cX6_takeBack, 2, none, [], 6, 0, 0, 0, 0),
  (yX6_wakesLowest, cX6_wakesLowest, 2, none, [], 6, 0, 1, 23, 0),
  (yX6_comes, cX6_comes, 4, (some .int), [], 6, 2, 2, 44, 0),
  (yX6_takes, cX6_takes, 4, none, [], 6, 2, 3, 67, 0),
  (yX6_takesNear, cX6_takesNear, 2, none, [], 6, 1, 4, 90, 0),
  (yX6_takesFar, cX6_takesFar, 5, none, [], 6, 2, 4, 90, 0),
  (yX6_canTakeFrom, cX6_canTakeFrom, 5, (some .boolean), [], 6, 2, 1, 22, 0),
  (yX6_isAhead, cX6_isAhead, 4, (some .boolean), [], 6, 3, 1, 22, 0),
  (yX6_chosen, cX6_chosen, 5, (some .int), [], 6, 1, 2, 46, 0),
  (yX6_sews, cX6_sews, 4, none, [], 6, 1, 1, 23, 0),
  (yX6_misses, cX6_misses, 2, none, [], 6, 1, 1, 23, 0),
  (yX6_acts, cX6_acts, 3, none, [], 6, 1, 5, 114, 0),
  (yX6_passesOne, cX6_passesOne, 2, none, [], 6, 0, 6, 136, 0),
  (yX6_passesAll, cX6_passesAll, 3, none, [], 6, 1, 7, 157, 0),
  (yX6_sumOf, cX6_sumOf, 4, (some .int), [], 6, 1, 1, 22, 0),
  (yX6_workLeft, cX6_workLeft, 3, (some .int), [], 6, 0, 1, 22, 0),
  (yX6_shirtsThat, cX6_shirtsThat, 4, (some .int), [], 6, 1, 1, 22, 0),
  (yX6_hires, cX6_hires, 4, (some .int), [], 6, 1, 1, 23, 0),
  (yX6_hire, cX6_hire, 2, (some .int), [], 6, 1, 2, 46, 0),
  (yX6_speed, cX6_speed, 4, (some .int), [], 6, 2, 2, 43, 0),
  (yX6_canLay, cX6_canLay, 2, (some .boolean), [], 6, 1, 1, 22, 0),
  (yX6_lay, cX6_lay, 3, (some .int), [], 6, 2, 3, 67, 0),
  (yX6_wakes, cX6_wakes, 3, (some .int), [], 6, 1, 1, 23, 0),
  (yX6_wake, cX6_wake, 2, (some .int), [], 6, 1, 2, 45, 0),
  (yX6_pass, cX6_pass, 3, (some .int), [], 6, 1, 8, 179, 0),
  (yX6_set, cX6_set, 5, (some .int), [], 6, 2, 1, 22, 0),
  (yX6_append, cX6_append, 2, (some .int), [], 6, 1, 1, 22, 0),
  (yX6_clearBuffer, cX6_clearBuffer, 2, (some .int), [], 6, 0, 0, 0, 0),
  (yX6_sign, cX6_sign, 1, (some .int), [], 6, 0, 0, 0, 0),
  (yX6_digit, cX6_digit, 4, (some .int), [], 6, 2, 1, 22, 0),
  (yX6_number, cX6_number, 2, (some .int), [], 6, 0, 2, 45, 0),
  (yX6_readsOrder, cX6_readsOrder, 3, none, [], 6, 0, 3, 66, 0),
  (yX6_readsAll, cX6_readsAll, 1, none, [], 6, 0, 4, 88, 0),
  (yX6_firstError, cX6_firstError, 1, (some .int), [], 6, 0, 5, 108, 0),
  (yX6_obeys, cX6_obeys, 5, (some .boolean), [], 6, 1, 8, 179, 0),
  (yX6_obey, cX6_obey, 2, (some .int), [], 6, 0, 9, 203, 0),
  (yX6_keep, cX6_keep, 2, (some .int), [], 6, 0, 0, 0, 0),
  (yX6_goBack, cX6_goBack, 2, (some .int), [], 6, 0, 1, 21, 0),
  (yX6_undo, cX6_undo, 2, (some .int), [], 6, 0, 1, 21, 0),
  (yX6_load, cX6_load, 4, (some .int), [], 6, 1, 1, 22, 0),
  (yX6_tellsWho, cX6_tellsWho, 3, (some .int), [], 6, 2, 2, 45, 0),
  (yX6_seamstress, cX6_seamstress, 3, (some .int), [], 6, 2, 3, 67, 0),
  (yX6_pile, cX6_pile, 3, (some .int), [], 6, 2, 2, 43, 0),
  (yX6_shirt, cX6_shirt, 3, (some .int), [], 6, 2, 1, 22, 0),
  (yX6_tellsCount, cX6_tellsCount, 2, (some .int), [], 6, 1, 2, 45, 0),
  (yX6_count, cX6_count, 2, (some .int), [], 6, 1, 3, 66, 0),
  (yX6_setting, cX6_setting, 2, (some .int), [], 6, 1, 1, 22, 0),
  (yX6_choice, cX6_choice, 2, (some .int), [], 6, 1, 3, 70, 0),
  (yX6_until, cX6_until, 2, (some .int), [], 6, 0, 7, 157, 0),
  (yX6_done, cX6_done, 4, (some .int), [], 6, 2, 8, 178, 0),
  (yX6_doneIn, cX6_doneIn, 1, (some .int), [], 6, 0, 9, 201, 0),
  (yX6_doneAlone, cX6_doneAlone, 1, (some .int), [], 6, 0, 9, 201, 0),
  (yX6_doneWith, cX6_doneWith, 2, (some .int), [], 6, 1, 9, 201, 0),
  (yX6_would, cX6_would, 6, (some .int), [], 6, 2, 8, 179, 0),
  (yX6_ifPassed, cX6_ifPassed, 3, (some .int), [], 6, 2, 9, 204, 0),
  (yX6_share, cX6_share, 1, (some .double), [], 6, 0, 2, 45, 0),
  (yX6_takenShare, cX6_takenShare, 1, (some .double), [], 6, 0, 3, 65, 0),
  (yX6_even, cX6_even, 4, (some .float), [], 6, 0, 2, 45, 0),
  (yX6_evenness, cX6_evenness, 1, (some .float), [], 6, 0, 3, 68, 0),
  (yX6_hashes, cX6_hashes, 3, none, [], 6, 1, 0, 0, 0),
  (yX6_hashesWho, cX6_hashesWho, 3, none, [], 6, 1, 3, 70, 0),
  (yX6_digest, cX6_digest, 2, (some .long), [], 6, 0, 9, 204, 0),
  (yL_hire, cL_hire, 4, (some .int), [(0, 9, 12, 13), (0, 9, 15, 15)], 7, 3, 9, 141, 1),
  (yL_speed, cL_speed, 5, (some .int), [(0, 10, 13, 21), (0, 10, 17, 13)], 7, 4, 9, 143, 1),
  (yL_lay, cL_lay, 5, (some .int), [(0, 10, 13, 21), (0, 10, 17, 13), (0, 10, 21, 15)], 7, 4, 9, 143, 1),
  (yL_wake, cL_wake, 4, (some .int), [(0, 9, 12, 21)], 7, 3, 9, 142, 1),
  (yL_pass, cL_pass, 4, (some .int), [(0, 9, 12, 13)], 7, 3, 8, 159, 1),
  (yL_set, cL_set, 5, (some .int), [(0, 10, 13, 21), (0, 10, 17, 13)], 7, 4, 9, 143, 1),
  (yL_append, cL_append, 4, (some .int), [(0, 9, 12, 13), (0, 9, 15, 15)], 7, 3, 8, 121, 1),
  (yL_obey, cL_obey, 3, (some .int), [(0, 8, 11, 13)], 7, 2, 8, 182, 1),
  (yL_goBack, cL_goBack, 3, (some .int), [(0, 8, 11, 15)], 7, 2, 8, 120, 1),
  (yL_undo, cL_undo, 3, (some .int), [(0, 8, 11, 15)], 7, 2, 8, 120, 1),
  (yL_seamstress, cL_seamstress, 5, (some .int), [(0, 10, 13, 21), (0, 10, 17, 13)], 7, 4, 9, 143, 1),
  (yL_pile, cL_pile, 5, (some .int), [(0, 10, 13, 21), (0, 10, 17, 13)], 7, 4, 9, 143, 1),
  (yL_shirt, cL_shirt, 5, (some .int), [(0, 10, 13, 21), (0, 10, 17, 13)], 7, 4, 8, 122, 1),
  (yL_count, cL_count, 4, (some .int), [(0, 9, 12, 13)], 7, 3, 8, 121, 1),
  (yL_setting, cL_setting, 4, (some .int), [(0, 9, 12, 21)], 7, 3, 9, 141, 1),
  (yL_choice, cL_choice, 4, (some .int), [(0, 9, 12, 21)], 7, 3, 9, 142, 1),
  (yL_doneWith, cL_doneWith, 4, (some .int), [(0, 9, 12, 13)], 7, 3, 9, 158, 1),
  (yL_ifPassed, cL_ifPassed, 5, (some .int), [(0, 10, 13, 13)], 7, 4, 8, 159, 1)]
def sp_T : List sp_E := sp_T0 ++ [(yL_law, cL_law, 9, (some .boolean), [], 7, 1, 11, 226, 1)]
def sp_code (e : sp_E) : Cond := if e.2.2.2.2.1 = [] then .code e.1 e.2.1 e.2.2.1 e.2.2.2.1 else .codeWith e.1 e.2.1 e.2.2.1 e.2.2.2.1 e.2.2.2.2.1
set_option maxRecDepth 100000 in
theorem sp_tc_0 : sp_code (yX0_init, cX0_init, 2, none, [], 0, 0, 3, 65, 2) ∈ sp_AW := List.mem_filter.mpr ⟨List.mem_of_getElem? (i := 190) rfl, rfl⟩
set_option maxRecDepth 100000 in
theorem sp_tc_1 : sp_code (yX0_save, cX0_save, 3, none, [], 0, 1, 2, 45, 0) ∈ sp_AW := List.mem_filter.mpr ⟨List.mem_of_getElem? (i := 633) rfl, rfl⟩
set_option maxRecDepth 100000 in
theorem sp_tc_2 : sp_code (yX0_restoreLatest, cX0_restoreLatest, 3, none, [], 0, 1, 2, 45, 0) ∈ sp_AW := List.mem_filter.mpr ⟨List.mem_of_getElem? (i := 753) rfl, rfl⟩
set_option maxRecDepth 100000 in
theorem sp_tc_3 : sp_code (yX0_dropOldest, cX0_dropOldest, 3, none, [], 0, 0, 0, 0, 0) ∈ sp_AW := List.mem_filter.mpr ⟨List.mem_of_getElem? (i := 637) rfl, rfl⟩
set_option maxRecDepth 100000 in
theorem sp_tc_4 : sp_code (yX1_init, cX1_init, 1, none, [], 1, 0, 1, 24, 2) ∈ sp_AW := List.mem_filter.mpr ⟨List.mem_of_getElem? (i := 207) rfl, rfl⟩
set_option maxRecDepth 100000 in
theorem sp_tc_5 : sp_code (yX1_add, cX1_add, 2, none, [], 1, 1, 0, 0, 0) ∈ sp_AW := List.mem_filter.mpr ⟨List.mem_of_getElem? (i := 708) rfl, rfl⟩
set_option maxRecDepth 100000 in
theorem sp_tc_6 : sp_code (yX1_empty, cX1_empty, 2, (some .int), [], 1, 0, 0, 0, 0) ∈ sp_AW := List.mem_filter.mpr ⟨List.mem_of_getElem? (i := 244) rfl, rfl⟩
set_option maxRecDepth 100000 in
theorem sp_tc_7 : sp_code (yX1_codeAt, cX1_codeAt, 2, (some .int), [], 1, 1, 0, 0, 0) ∈ sp_AW := List.mem_filter.mpr ⟨List.mem_of_getElem? (i := 604) rfl, rfl⟩
set_option maxRecDepth 100000 in
theorem sp_tc_8 : sp_code (yX1_indexOfError, cX1_indexOfError, 3, (some .int), [], 1, 0, 2, 43, 0) ∈ sp_AW := List.mem_filter.mpr ⟨List.mem_of_getElem? (i := 252) rfl, rfl⟩
set_option maxRecDepth 100000 in
theorem sp_tc_9 : sp_code (yX1_isComplete, cX1_isComplete, 3, (some .boolean), [], 1, 0, 2, 43, 0) ∈ sp_AW := List.mem_filter.mpr ⟨List.mem_of_getElem? (i := 719) rfl, rfl⟩
set_option maxRecDepth 100000 in
theorem sp_tc_10 : sp_code (yX1_startsPart, cX1_startsPart, 2, (some .boolean), [], 1, 1, 1, 21, 0) ∈ sp_AW := List.mem_filter.mpr ⟨List.mem_of_getElem? (i := 724) rfl, rfl⟩
set_option maxRecDepth 100000 in
theorem sp_tc_11 : sp_code (yX1_numberAt, cX1_numberAt, 4, (some .int), [], 1, 1, 1, 22, 0) ∈ sp_AW := List.mem_filter.mpr ⟨List.mem_of_getElem? (i := 733) rfl, rfl⟩
set_option maxRecDepth 100000 in
theorem sp_tc_12 : sp_code (yX1_stateBehind, cX1_stateBehind, 2, (some .int), [], 1, 2, 1, 22, 1) ∈ sp_AW := List.mem_filter.mpr ⟨List.mem_of_getElem? (i := 255) rfl, rfl⟩
set_option maxRecDepth 100000 in
theorem sp_tc_13 : sp_code (yX1_stateBehindKind, cX1_stateBehindKind, 1, (some .int), [], 1, 1, 0, 0, 1) ∈ sp_AW := List.mem_filter.mpr ⟨List.mem_of_getElem? (i := 258) rfl, rfl⟩
set_option maxRecDepth 100000 in
theorem sp_tc_14 : sp_code (yX1_stateBehindPart, cX1_stateBehindPart, 1, (some .int), [], 1, 1, 0, 0, 1) ∈ sp_AW := List.mem_filter.mpr ⟨List.mem_of_getElem? (i := 264) rfl, rfl⟩
set_option maxRecDepth 100000 in
theorem sp_tc_15 : sp_code (yX1_isFrom, cX1_isFrom, 3, (some .boolean), [], 1, 3, 0, 0, 1) ∈ sp_AW := List.mem_filter.mpr ⟨List.mem_of_getElem? (i := 261) rfl, rfl⟩
set_option maxRecDepth 100000 in
theorem sp_tc_16 : sp_code (yX2_init, cX2_init, 1, none, [], 2, 0, 1, 24, 2) ∈ sp_AW := List.mem_filter.mpr ⟨List.mem_of_getElem? (i := 97) rfl, rfl⟩
set_option maxRecDepth 100000 in
theorem sp_tc_17 : sp_code (yX2_copyFrom, cX2_copyFrom, 4, none, [], 2, 1, 0, 0, 0) ∈ sp_AW := List.mem_filter.mpr ⟨List.mem_of_getElem? (i := 276) rfl, rfl⟩
set_option maxRecDepth 100000 in
theorem sp_tc_18 : sp_code (yX2_height, cX2_height, 2, (some .int), [], 2, 1, 0, 0, 0) ∈ sp_AW := List.mem_filter.mpr ⟨List.mem_of_getElem? (i := 336) rfl, rfl⟩
set_option maxRecDepth 100000 in
theorem sp_tc_19 : sp_code (yX2_at, cX2_at, 3, (some .int), [], 2, 2, 0, 0, 0) ∈ sp_AW := List.mem_filter.mpr ⟨List.mem_of_getElem? (i := 356) rfl, rfl⟩
set_option maxRecDepth 100000 in
theorem sp_tc_20 : sp_code (yX2_putNear, cX2_putNear, 4, none, [], 2, 2, 0, 0, 0) ∈ sp_AW := List.mem_filter.mpr ⟨List.mem_of_getElem? (i := 380) rfl, rfl⟩
set_option maxRecDepth 100000 in
theorem sp_tc_21 : sp_code (yX2_takeNear, cX2_takeNear, 3, (some .int), [], 2, 1, 0, 0, 0) ∈ sp_AW := List.mem_filter.mpr ⟨List.mem_of_getElem? (i := 340) rfl, rfl⟩
set_option maxRecDepth 100000 in
theorem sp_tc_22 : sp_code (yX2_takeFar, cX2_takeFar, 4, (some .int), [], 2, 1, 0, 0, 0) ∈ sp_AW := List.mem_filter.mpr ⟨List.mem_of_getElem? (i := 360) rfl, rfl⟩
set_option maxRecDepth 100000 in
theorem sp_tc_23 : sp_code (yX3_init, cX3_init, 2, none, [], 3, 0, 2, 44, 2) ∈ sp_AW := List.mem_filter.mpr ⟨List.mem_of_getElem? (i := 91) rfl, rfl⟩
set_option maxRecDepth 100000 in
theorem sp_tc_24 : sp_code (yX3_copyFrom, cX3_copyFrom, 3, none, [], 3, 1, 1, 23, 0) ∈ sp_AW := List.mem_filter.mpr ⟨List.mem_of_getElem? (i := 272) rfl, rfl⟩
set_option maxRecDepth 100000 in
theorem sp_tc_25 : sp_code (yX3_hasSeamstress, cX3_hasSeamstress, 2, (some .boolean), [], 3, 1, 0, 0, 0) ∈ sp_AW := List.mem_filter.mpr ⟨List.mem_of_getElem? (i := 312) rfl, rfl⟩
set_option maxRecDepth 100000 in
theorem sp_tc_26 : sp_code (yX3_addSeamstress, cX3_addSeamstress, 2, (some .int), [], 3, 1, 0, 0, 0) ∈ sp_AW := List.mem_filter.mpr ⟨List.mem_of_getElem? (i := 574) rfl, rfl⟩
set_option maxRecDepth 100000 in
theorem sp_tc_27 : sp_code (yX3_changeSpeed, cX3_changeSpeed, 4, (some .int), [], 3, 2, 1, 21, 0) ∈ sp_AW := List.mem_filter.mpr ⟨List.mem_of_getElem? (i := 650) rfl, rfl⟩
set_option maxRecDepth 100000 in
theorem sp_tc_28 : sp_code (yX3_rouse, cX3_rouse, 3, (some .int), [], 3, 1, 1, 21, 0) ∈ sp_AW := List.mem_filter.mpr ⟨List.mem_of_getElem? (i := 675) rfl, rfl⟩
set_option maxRecDepth 100000 in
theorem sp_tc_29 : sp_code (yX3_canLayOnto, cX3_canLayOnto, 2, (some .boolean), [], 3, 1, 1, 21, 0) ∈ sp_AW := List.mem_filter.mpr ⟨List.mem_of_getElem? (i := 662) rfl, rfl⟩
set_option maxRecDepth 100000 in
theorem sp_tc_30 : sp_code (yX3_layNewShirt, cX3_layNewShirt, 4, (some .int), [], 3, 2, 1, 23, 0) ∈ sp_AW := List.mem_filter.mpr ⟨List.mem_of_getElem? (i := 372) rfl, rfl⟩
set_option maxRecDepth 100000 in
theorem sp_tc_31 : sp_code (yX3_wakeFirstSleeper, cX3_wakeFirstSleeper, 2, none, [], 3, 0, 0, 0, 0) ∈ sp_AW := List.mem_filter.mpr ⟨List.mem_of_getElem? (i := 384) rfl, rfl⟩
set_option maxRecDepth 100000 in
theorem sp_tc_32 : sp_code (yX3_passMinutes, cX3_passMinutes, 3, none, [], 3, 1, 5, 115, 0) ∈ sp_AW := List.mem_filter.mpr ⟨List.mem_of_getElem? (i := 583) rfl, rfl⟩
set_option maxRecDepth 100000 in
theorem sp_tc_33 : sp_code (yX3_passMinute, cX3_passMinute, 4, none, [], 3, 1, 4, 92, 0) ∈ sp_AW := List.mem_filter.mpr ⟨List.mem_of_getElem? (i := 304) rfl, rfl⟩
set_option maxRecDepth 100000 in
theorem sp_tc_34 : sp_code (yX3_act, cX3_act, 4, (some .int), [], 3, 2, 3, 69, 0) ∈ sp_AW := List.mem_filter.mpr ⟨List.mem_of_getElem? (i := 308) rfl, rfl⟩
set_option maxRecDepth 100000 in
theorem sp_tc_35 : sp_code (yX3_sew, cX3_sew, 4, none, [], 3, 1, 2, 44, 0) ∈ sp_AW := List.mem_filter.mpr ⟨List.mem_of_getElem? (i := 316) rfl, rfl⟩
set_option maxRecDepth 100000 in
theorem sp_tc_36 : sp_code (yX3_miss, cX3_miss, 2, none, [], 3, 1, 1, 21, 0) ∈ sp_AW := List.mem_filter.mpr ⟨List.mem_of_getElem? (i := 364) rfl, rfl⟩
set_option maxRecDepth 100000 in
theorem sp_tc_37 : sp_code (yX3_takeIntoHand, cX3_takeIntoHand, 5, none, [], 3, 2, 2, 46, 0) ∈ sp_AW := List.mem_filter.mpr ⟨List.mem_of_getElem? (i := 368) rfl, rfl⟩
set_option maxRecDepth 100000 in
theorem sp_tc_38 : sp_code (yX3_chosenPile, cX3_chosenPile, 6, (some .int), [], 3, 1, 2, 44, 0) ∈ sp_AW := List.mem_filter.mpr ⟨List.mem_of_getElem? (i := 344) rfl, rfl⟩
set_option maxRecDepth 100000 in
theorem sp_tc_39 : sp_code (yX3_canBeTakenFrom, cX3_canBeTakenFrom, 3, (some .boolean), [], 3, 1, 1, 21, 0) ∈ sp_AW := List.mem_filter.mpr ⟨List.mem_of_getElem? (i := 348) rfl, rfl⟩
set_option maxRecDepth 100000 in
theorem sp_tc_40 : sp_code (yX3_merit, cX3_merit, 3, (some .int), [], 3, 2, 1, 22, 0) ∈ sp_AW := List.mem_filter.mpr ⟨List.mem_of_getElem? (i := 352) rfl, rfl⟩
set_option maxRecDepth 100000 in
theorem sp_tc_41 : sp_code (yX3_minutesUntilDone, cX3_minutesUntilDone, 3, (some .int), [], 3, 1, 5, 115, 0) ∈ sp_AW := List.mem_filter.mpr ⟨List.mem_of_getElem? (i := 288) rfl, rfl⟩
set_option maxRecDepth 100000 in
theorem sp_tc_42 : sp_code (yX3_seamstressNumber, cX3_seamstressNumber, 3, (some .int), [], 3, 2, 2, 45, 0) ∈ sp_AW := List.mem_filter.mpr ⟨List.mem_of_getElem? (i := 533) rfl, rfl⟩
set_option maxRecDepth 100000 in
theorem sp_tc_43 : sp_code (yX3_countedNumber, cX3_countedNumber, 2, (some .int), [], 3, 1, 2, 43, 0) ∈ sp_AW := List.mem_filter.mpr ⟨List.mem_of_getElem? (i := 483) rfl, rfl⟩
set_option maxRecDepth 100000 in
theorem sp_tc_44 : sp_code (yX3_load, cX3_load, 4, (some .int), [], 3, 1, 1, 22, 0) ∈ sp_AW := List.mem_filter.mpr ⟨List.mem_of_getElem? (i := 401) rfl, rfl⟩
set_option maxRecDepth 100000 in
theorem sp_tc_45 : sp_code (yX3_sewnShirts, cX3_sewnShirts, 1, (some .int), [], 3, 0, 1, 23, 0) ∈ sp_AW := List.mem_filter.mpr ⟨List.mem_of_getElem? (i := 292) rfl, rfl⟩
set_option maxRecDepth 100000 in
theorem sp_tc_46 : sp_code (yX3_fullHands, cX3_fullHands, 3, (some .int), [], 3, 0, 0, 0, 0) ∈ sp_AW := List.mem_filter.mpr ⟨List.mem_of_getElem? (i := 487) rfl, rfl⟩
set_option maxRecDepth 100000 in
theorem sp_tc_47 : sp_code (yX3_sleepers, cX3_sleepers, 3, (some .int), [], 3, 0, 0, 0, 0) ∈ sp_AW := List.mem_filter.mpr ⟨List.mem_of_getElem? (i := 300) rfl, rfl⟩
set_option maxRecDepth 100000 in
theorem sp_tc_48 : sp_code (yX3_total, cX3_total, 4, (some .int), [], 3, 1, 0, 0, 0) ∈ sp_AW := List.mem_filter.mpr ⟨List.mem_of_getElem? (i := 296) rfl, rfl⟩
set_option maxRecDepth 100000 in
theorem sp_tc_49 : sp_code (yX4_init, cX4_init, 1, none, [], 4, 0, 1, 24, 2) ∈ sp_AW := List.mem_filter.mpr ⟨List.mem_of_getElem? (i := 115) rfl, rfl⟩
set_option maxRecDepth 100000 in
theorem sp_tc_50 : sp_code (yX4_copyFrom, cX4_copyFrom, 3, none, [], 4, 1, 0, 0, 0) ∈ sp_AW := List.mem_filter.mpr ⟨List.mem_of_getElem? (i := 280) rfl, rfl⟩
set_option maxRecDepth 100000 in
theorem sp_tc_51 : sp_code (yX4_has, cX4_has, 2, (some .boolean), [], 4, 1, 0, 0, 0) ∈ sp_AW := List.mem_filter.mpr ⟨List.mem_of_getElem? (i := 328) rfl, rfl⟩
set_option maxRecDepth 100000 in
theorem sp_tc_52 : sp_code (yX4_add, cX4_add, 3, (some .int), [], 4, 2, 0, 0, 0) ∈ sp_AW := List.mem_filter.mpr ⟨List.mem_of_getElem? (i := 376) rfl, rfl⟩
set_option maxRecDepth 100000 in
theorem sp_tc_53 : sp_code (yX4_workOf, cX4_workOf, 2, (some .int), [], 4, 1, 0, 0, 0) ∈ sp_AW := List.mem_filter.mpr ⟨List.mem_of_getElem? (i := 320) rfl, rfl⟩
set_option maxRecDepth 100000 in
theorem sp_tc_54 : sp_code (yX4_setWork, cX4_setWork, 3, none, [], 4, 2, 1, 21, 0) ∈ sp_AW := List.mem_filter.mpr ⟨List.mem_of_getElem? (i := 324) rfl, rfl⟩
set_option maxRecDepth 100000 in
theorem sp_tc_55 : sp_code (yX4_move, cX4_move, 4, none, [], 4, 3, 1, 21, 0) ∈ sp_AW := List.mem_filter.mpr ⟨List.mem_of_getElem? (i := 332) rfl, rfl⟩
set_option maxRecDepth 100000 in
theorem sp_tc_56 : sp_code (yX4_number, cX4_number, 3, (some .int), [], 4, 2, 1, 21, 0) ∈ sp_AW := List.mem_filter.mpr ⟨List.mem_of_getElem? (i := 560) rfl, rfl⟩
set_option maxRecDepth 100000 in
theorem sp_tc_57 : sp_code (yX4_workLeft, cX4_workLeft, 3, (some .int), [], 4, 0, 0, 0, 0) ∈ sp_AW := List.mem_filter.mpr ⟨List.mem_of_getElem? (i := 491) rfl, rfl⟩
set_option maxRecDepth 100000 in
theorem sp_tc_58 : sp_code (yX5_init, cX5_init, 1, none, [], 5, 0, 4, 86, 2) ∈ sp_AW := List.mem_filter.mpr ⟨List.mem_of_getElem? (i := 83) rfl, rfl⟩
set_option maxRecDepth 100000 in
theorem sp_tc_59 : sp_code (yX5_hire, cX5_hire, 2, (some .int), [], 5, 1, 8, 120, 0) ∈ sp_AW := List.mem_filter.mpr ⟨List.mem_of_getElem? (i := 613) rfl, rfl⟩
set_option maxRecDepth 100000 in
theorem sp_tc_60 : sp_code (yX5_speed, cX5_speed, 3, (some .int), [], 5, 2, 8, 121, 0) ∈ sp_AW := List.mem_filter.mpr ⟨List.mem_of_getElem? (i := 646) rfl, rfl⟩
set_option maxRecDepth 100000 in
theorem sp_tc_61 : sp_code (yX5_lay, cX5_lay, 3, (some .int), [], 5, 2, 8, 121, 0) ∈ sp_AW := List.mem_filter.mpr ⟨List.mem_of_getElem? (i := 657) rfl, rfl⟩
set_option maxRecDepth 100000 in
theorem sp_tc_62 : sp_code (yX5_wake, cX5_wake, 2, (some .int), [], 5, 1, 8, 121, 0) ∈ sp_AW := List.mem_filter.mpr ⟨List.mem_of_getElem? (i := 671) rfl, rfl⟩
set_option maxRecDepth 100000 in
theorem sp_tc_63 : sp_code (yX5_pass, cX5_pass, 3, (some .int), [], 5, 1, 7, 137, 0) ∈ sp_AW := List.mem_filter.mpr ⟨List.mem_of_getElem? (i := 682) rfl, rfl⟩
set_option maxRecDepth 100000 in
theorem sp_tc_64 : sp_code (yX5_set, cX5_set, 4, (some .int), [], 5, 2, 8, 120, 0) ∈ sp_AW := List.mem_filter.mpr ⟨List.mem_of_getElem? (i := 690) rfl, rfl⟩
set_option maxRecDepth 100000 in
theorem sp_tc_65 : sp_code (yX5_append, cX5_append, 2, (some .int), [], 5, 1, 7, 100, 0) ∈ sp_AW := List.mem_filter.mpr ⟨List.mem_of_getElem? (i := 702) rfl, rfl⟩
set_option maxRecDepth 100000 in
theorem sp_tc_66 : sp_code (yX5_clearBuffer, cX5_clearBuffer, 1, (some .int), [], 5, 0, 1, 21, 0) ∈ sp_AW := List.mem_filter.mpr ⟨List.mem_of_getElem? (i := 240) rfl, rfl⟩
set_option maxRecDepth 100000 in
theorem sp_tc_67 : sp_code (yX5_firstError, cX5_firstError, 1, (some .int), [], 5, 0, 3, 65, 0) ∈ sp_AW := List.mem_filter.mpr ⟨List.mem_of_getElem? (i := 248) rfl, rfl⟩
set_option maxRecDepth 100000 in
theorem sp_tc_68 : sp_code (yX5_obey, cX5_obey, 3, (some .int), [], 5, 0, 7, 160, 0) ∈ sp_AW := List.mem_filter.mpr ⟨List.mem_of_getElem? (i := 715) rfl, rfl⟩
set_option maxRecDepth 100000 in
theorem sp_tc_69 : sp_code (yX5_keep, cX5_keep, 1, (some .int), [], 5, 0, 2, 45, 0) ∈ sp_AW := List.mem_filter.mpr ⟨List.mem_of_getElem? (i := 268) rfl, rfl⟩
set_option maxRecDepth 100000 in
theorem sp_tc_70 : sp_code (yX5_goBack, cX5_goBack, 1, (some .int), [], 5, 0, 7, 100, 0) ∈ sp_AW := List.mem_filter.mpr ⟨List.mem_of_getElem? (i := 740) rfl, rfl⟩
set_option maxRecDepth 100000 in
theorem sp_tc_71 : sp_code (yX5_undo, cX5_undo, 1, (some .int), [], 5, 0, 7, 100, 0) ∈ sp_AW := List.mem_filter.mpr ⟨List.mem_of_getElem? (i := 748) rfl, rfl⟩
set_option maxRecDepth 100000 in
theorem sp_tc_72 : sp_code (yX5_seamstress, cX5_seamstress, 3, (some .int), [], 5, 2, 8, 121, 0) ∈ sp_AW := List.mem_filter.mpr ⟨List.mem_of_getElem? (i := 522) rfl, rfl⟩
set_option maxRecDepth 100000 in
theorem sp_tc_73 : sp_code (yX5_pile, cX5_pile, 3, (some .int), [], 5, 2, 8, 121, 0) ∈ sp_AW := List.mem_filter.mpr ⟨List.mem_of_getElem? (i := 539) rfl, rfl⟩
set_option maxRecDepth 100000 in
theorem sp_tc_74 : sp_code (yX5_shirt, cX5_shirt, 3, (some .int), [], 5, 2, 7, 100, 0) ∈ sp_AW := List.mem_filter.mpr ⟨List.mem_of_getElem? (i := 554) rfl, rfl⟩
set_option maxRecDepth 100000 in
theorem sp_tc_75 : sp_code (yX5_count, cX5_count, 2, (some .int), [], 5, 1, 7, 100, 0) ∈ sp_AW := List.mem_filter.mpr ⟨List.mem_of_getElem? (i := 411) rfl, rfl⟩
set_option maxRecDepth 100000 in
theorem sp_tc_76 : sp_code (yX5_setting, cX5_setting, 2, (some .int), [], 5, 1, 8, 120, 0) ∈ sp_AW := List.mem_filter.mpr ⟨List.mem_of_getElem? (i := 495) rfl, rfl⟩
set_option maxRecDepth 100000 in
theorem sp_tc_77 : sp_code (yX5_choice, cX5_choice, 2, (some .int), [], 5, 1, 8, 121, 0) ∈ sp_AW := List.mem_filter.mpr ⟨List.mem_of_getElem? (i := 545) rfl, rfl⟩
set_option maxRecDepth 100000 in
theorem sp_tc_78 : sp_code (yX5_doneIn, cX5_doneIn, 1, (some .int), [], 5, 0, 6, 137, 0) ∈ sp_AW := List.mem_filter.mpr ⟨List.mem_of_getElem? (i := 284) rfl, rfl⟩
set_option maxRecDepth 100000 in
theorem sp_tc_79 : sp_code (yX5_doneAlone, cX5_doneAlone, 1, (some .int), [], 5, 0, 6, 137, 0) ∈ sp_AW := List.mem_filter.mpr ⟨List.mem_of_getElem? (i := 388) rfl, rfl⟩
set_option maxRecDepth 100000 in
theorem sp_tc_80 : sp_code (yX5_doneWith, cX5_doneWith, 2, (some .int), [], 5, 1, 8, 137, 0) ∈ sp_AW := List.mem_filter.mpr ⟨List.mem_of_getElem? (i := 566) rfl, rfl⟩
set_option maxRecDepth 100000 in
theorem sp_tc_81 : sp_code (yX5_ifPassed, cX5_ifPassed, 3, (some .int), [], 5, 2, 7, 137, 0) ∈ sp_AW := List.mem_filter.mpr ⟨List.mem_of_getElem? (i := 578) rfl, rfl⟩
set_option maxRecDepth 100000 in
theorem sp_tc_82 : sp_code (yX5_takenShare, cX5_takenShare, 1, (some .double), [], 5, 0, 1, 23, 0) ∈ sp_AW := List.mem_filter.mpr ⟨List.mem_of_getElem? (i := 392) rfl, rfl⟩
set_option maxRecDepth 100000 in
theorem sp_tc_83 : sp_code (yX5_evenness, cX5_evenness, 5, (some .float), [], 5, 0, 2, 45, 0) ∈ sp_AW := List.mem_filter.mpr ⟨List.mem_of_getElem? (i := 397) rfl, rfl⟩
set_option maxRecDepth 100000 in
theorem sp_tc_84 : sp_code (yX5_digest, cX5_digest, 4, (some .long), [], 5, 0, 10, 170, 0) ∈ sp_AW := List.mem_filter.mpr ⟨List.mem_of_getElem? (i := 405) rfl, rfl⟩
set_option maxRecDepth 100000 in
theorem sp_tc_85 : sp_code (yX5_addSeamstresses, cX5_addSeamstresses, 8, (some .long), [], 5, 1, 9, 143, 0) ∈ sp_AW := List.mem_filter.mpr ⟨List.mem_of_getElem? (i := 518) rfl, rfl⟩
set_option maxRecDepth 100000 in
theorem sp_tc_86 : sp_code (yX5_addShirts, cX5_addShirts, 7, (some .long), [], 5, 1, 8, 122, 0) ∈ sp_AW := List.mem_filter.mpr ⟨List.mem_of_getElem? (i := 550) rfl, rfl⟩
set_option maxRecDepth 100000 in
theorem sp_tc_87 : sp_code (yX5_addText, cX5_addText, 6, (some .long), [], 5, 1, 1, 21, 0) ∈ sp_AW := List.mem_filter.mpr ⟨List.mem_of_getElem? (i := 600) rfl, rfl⟩
set_option maxRecDepth 100000 in
theorem sp_tc_88 : sp_code (yX5_bitsOfDouble, cX5_bitsOfDouble, 7, (some .long), [], 5, 1, 0, 0, 1) ∈ sp_AW := List.mem_filter.mpr ⟨List.mem_of_getElem? (i := 589) rfl, rfl⟩
set_option maxRecDepth 100000 in
theorem sp_tc_89 : sp_code (yX5_bitsOfFloat, cX5_bitsOfFloat, 4, (some .int), [], 5, 1, 0, 0, 1) ∈ sp_AW := List.mem_filter.mpr ⟨List.mem_of_getElem? (i := 595) rfl, rfl⟩
set_option maxRecDepth 100000 in
theorem sp_tc_90 : sp_code (yX5_checkSeamstress, cX5_checkSeamstress, 2, none, [], 5, 1, 7, 100, 0) ∈ sp_AW := List.mem_filter.mpr ⟨List.mem_of_getElem? (i := 526) rfl, rfl⟩
set_option maxRecDepth 100000 in
theorem sp_tc_91 : sp_code (yX5_checkSpeed, cX5_checkSpeed, 1, none, [], 5, 1, 7, 100, 1) ∈ sp_AW := List.mem_filter.mpr ⟨List.mem_of_getElem? (i := 569) rfl, rfl⟩
set_option maxRecDepth 100000 in
theorem sp_tc_92 : sp_code (yX5_checkSetting, cX5_checkSetting, 1, none, [], 5, 1, 7, 100, 1) ∈ sp_AW := List.mem_filter.mpr ⟨List.mem_of_getElem? (i := 498) rfl, rfl⟩
set_option maxRecDepth 100000 in
theorem sp_tc_93 : sp_code (yX5_doPart, cX5_doPart, 4, (some .boolean), [], 5, 1, 6, 137, 0) ∈ sp_AW := List.mem_filter.mpr ⟨List.mem_of_getElem? (i := 729) rfl, rfl⟩
set_option maxRecDepth 100000 in
theorem sp_tc_94 : sp_code (yX6_init, cX6_init, 1, none, [], 6, 0, 1, 24, 2) ∈ sp_AW := List.mem_filter.mpr ⟨List.mem_of_getElem? (i := 790) rfl, rfl⟩
set_option maxRecDepth 100000 in
theorem sp_tc_95 : sp_code (yX6_thrown, cX6_thrown, 1, (some .int), [], 6, 0, 0, 0, 0) ∈ sp_AW := List.mem_filter.mpr ⟨List.mem_of_getElem? (i := 845) rfl, rfl⟩
set_option maxRecDepth 100000 in
theorem sp_tc_96 : sp_code (yX6_in, cX6_in, 3, (some .boolean), [], 6, 3, 0, 0, 1) ∈ sp_AW := List.mem_filter.mpr ⟨List.mem_of_getElem? (i := 852) rfl, rfl⟩
set_option maxRecDepth 100000 in
theorem sp_tc_97 : sp_code (yX6_fails, cX6_fails, 2, (some .int), [], 6, 1, 0, 0, 0) ∈ sp_AW := List.mem_filter.mpr ⟨List.mem_of_getElem? (i := 856) rfl, rfl⟩
set_option maxRecDepth 100000 in
theorem sp_tc_98 : sp_code (yX6_of, cX6_of, 3, (some .int), [], 6, 2, 0, 0, 0) ∈ sp_AW := List.mem_filter.mpr ⟨List.mem_of_getElem? (i := 876) rfl, rfl⟩
set_option maxRecDepth 100000 in
theorem sp_tc_99 : sp_code (yX6_lays, cX6_lays, 4, none, [], 6, 3, 0, 0, 0) ∈ sp_AW := List.mem_filter.mpr ⟨List.mem_of_getElem? (i := 795) rfl, rfl⟩
set_option maxRecDepth 100000 in
theorem sp_tc_100 : sp_code (yX6_grows, cX6_grows, 3, none, [], 6, 2, 0, 0, 0) ∈ sp_AW := List.mem_filter.mpr ⟨List.mem_of_getElem? (i := 896) rfl, rfl⟩
set_option maxRecDepth 100000 in
theorem sp_tc_101 : sp_code (yX6_onPile, cX6_onPile, 3, (some .int), [], 6, 2, 0, 0, 0) ∈ sp_AW := List.mem_filter.mpr ⟨List.mem_of_getElem? (i := 944) rfl, rfl⟩
set_option maxRecDepth 100000 in
theorem sp_tc_102 : sp_code (yX6_ofShirt, cX6_ofShirt, 3, (some .int), [], 6, 2, 0, 0, 0) ∈ sp_AW := List.mem_filter.mpr ⟨List.mem_of_getElem? (i := 948) rfl, rfl⟩
set_option maxRecDepth 100000 in
theorem sp_tc_103 : sp_code (yX6_layShirt, cX6_layShirt, 4, none, [], 6, 3, 0, 0, 0) ∈ sp_AW := List.mem_filter.mpr ⟨List.mem_of_getElem? (i := 892) rfl, rfl⟩
set_option maxRecDepth 100000 in
theorem sp_tc_104 : sp_code (yX6_isWho, cX6_isWho, 2, (some .boolean), [], 6, 1, 1, 22, 0) ∈ sp_AW := List.mem_filter.mpr ⟨List.mem_of_getElem? (i := 872) rfl, rfl⟩
set_option maxRecDepth 100000 in
theorem sp_tc_105 : sp_code (yX6_saves, cX6_saves, 2, none, [], 6, 0, 0, 0, 0) ∈ sp_AW := List.mem_filter.mpr ⟨List.mem_of_getElem? (i := 860) rfl, rfl⟩
set_option maxRecDepth 100000 in
theorem sp_tc_106 : sp_code (yX6_putAside, cX6_putAside, 2, none, [], 6, 0, 0, 0, 0) ∈ sp_AW := List.mem_filter.mpr ⟨List.mem_of_getElem? (i := 1080) rfl, rfl⟩
set_option maxRecDepth 100000 in
theorem sp_tc_107 : sp_code (yX6_takeBack, cX6_takeBack, 2, none, [], 6, 0, 0, 0, 0) ∈ sp_AW := List.mem_filter.mpr ⟨List.mem_of_getElem? (i := 1088) rfl, rfl⟩
set_option maxRecDepth 100000 in
theorem sp_tc_108 : sp_code (yX6_wakesLowest, cX6_wakesLowest, 2, none, [], 6, 0, 1, 23, 0) ∈ sp_AW := List.mem_filter.mpr ⟨List.mem_of_getElem? (i := 900) rfl, rfl⟩
set_option maxRecDepth 100000 in
theorem sp_tc_109 : sp_code (yX6_comes, cX6_comes, 4, (some .int), [], 6, 2, 2, 44, 0) ∈ sp_AW := List.mem_filter.mpr ⟨List.mem_of_getElem? (i := 888) rfl, rfl⟩
set_option maxRecDepth 100000 in
theorem sp_tc_110 : sp_code (yX6_takes, cX6_takes, 4, none, [], 6, 2, 3, 67, 0) ∈ sp_AW := List.mem_filter.mpr ⟨List.mem_of_getElem? (i := 960) rfl, rfl⟩
set_option maxRecDepth 100000 in
theorem sp_tc_111 : sp_code (yX6_takesNear, cX6_takesNear, 2, none, [], 6, 1, 4, 90, 0) ∈ sp_AW := List.mem_filter.mpr ⟨List.mem_of_getElem? (i := 956) rfl, rfl⟩
set_option maxRecDepth 100000 in
theorem sp_tc_112 : sp_code (yX6_takesFar, cX6_takesFar, 5, none, [], 6, 2, 4, 90, 0) ∈ sp_AW := List.mem_filter.mpr ⟨List.mem_of_getElem? (i := 964) rfl, rfl⟩
set_option maxRecDepth 100000 in
theorem sp_tc_113 : sp_code (yX6_canTakeFrom, cX6_canTakeFrom, 5, (some .boolean), [], 6, 2, 1, 22, 0) ∈ sp_AW := List.mem_filter.mpr ⟨List.mem_of_getElem? (i := 936) rfl, rfl⟩
set_option maxRecDepth 100000 in
theorem sp_tc_114 : sp_code (yX6_isAhead, cX6_isAhead, 4, (some .boolean), [], 6, 3, 1, 22, 0) ∈ sp_AW := List.mem_filter.mpr ⟨List.mem_of_getElem? (i := 940) rfl, rfl⟩
set_option maxRecDepth 100000 in
theorem sp_tc_115 : sp_code (yX6_chosen, cX6_chosen, 5, (some .int), [], 6, 1, 2, 46, 0) ∈ sp_AW := List.mem_filter.mpr ⟨List.mem_of_getElem? (i := 932) rfl, rfl⟩
set_option maxRecDepth 100000 in
theorem sp_tc_116 : sp_code (yX6_sews, cX6_sews, 4, none, [], 6, 1, 1, 23, 0) ∈ sp_AW := List.mem_filter.mpr ⟨List.mem_of_getElem? (i := 952) rfl, rfl⟩
set_option maxRecDepth 100000 in
theorem sp_tc_117 : sp_code (yX6_misses, cX6_misses, 2, none, [], 6, 1, 1, 23, 0) ∈ sp_AW := List.mem_filter.mpr ⟨List.mem_of_getElem? (i := 968) rfl, rfl⟩
set_option maxRecDepth 100000 in
theorem sp_tc_118 : sp_code (yX6_acts, cX6_acts, 3, none, [], 6, 1, 5, 114, 0) ∈ sp_AW := List.mem_filter.mpr ⟨List.mem_of_getElem? (i := 928) rfl, rfl⟩
set_option maxRecDepth 100000 in
theorem sp_tc_119 : sp_code (yX6_passesOne, cX6_passesOne, 2, none, [], 6, 0, 6, 136, 0) ∈ sp_AW := List.mem_filter.mpr ⟨List.mem_of_getElem? (i := 924) rfl, rfl⟩
set_option maxRecDepth 100000 in
theorem sp_tc_120 : sp_code (yX6_passesAll, cX6_passesAll, 3, none, [], 6, 1, 7, 157, 0) ∈ sp_AW := List.mem_filter.mpr ⟨List.mem_of_getElem? (i := 920) rfl, rfl⟩
set_option maxRecDepth 100000 in
theorem sp_tc_121 : sp_code (yX6_sumOf, cX6_sumOf, 4, (some .int), [], 6, 1, 1, 22, 0) ∈ sp_AW := List.mem_filter.mpr ⟨List.mem_of_getElem? (i := 916) rfl, rfl⟩
set_option maxRecDepth 100000 in
theorem sp_tc_122 : sp_code (yX6_workLeft, cX6_workLeft, 3, (some .int), [], 6, 0, 1, 22, 0) ∈ sp_AW := List.mem_filter.mpr ⟨List.mem_of_getElem? (i := 1060) rfl, rfl⟩
set_option maxRecDepth 100000 in
theorem sp_tc_123 : sp_code (yX6_shirtsThat, cX6_shirtsThat, 4, (some .int), [], 6, 1, 1, 22, 0) ∈ sp_AW := List.mem_filter.mpr ⟨List.mem_of_getElem? (i := 1056) rfl, rfl⟩
set_option maxRecDepth 100000 in
theorem sp_tc_124 : sp_code (yX6_hires, cX6_hires, 4, (some .int), [], 6, 1, 1, 23, 0) ∈ sp_AW := List.mem_filter.mpr ⟨List.mem_of_getElem? (i := 864) rfl, rfl⟩
set_option maxRecDepth 100000 in
theorem sp_tc_125 : sp_code (yX6_hire, cX6_hire, 2, (some .int), [], 6, 1, 2, 46, 0) ∈ sp_AW := List.mem_filter.mpr ⟨List.mem_of_getElem? (i := 849) rfl, rfl⟩
set_option maxRecDepth 100000 in
theorem sp_tc_126 : sp_code (yX6_speed, cX6_speed, 4, (some .int), [], 6, 2, 2, 43, 0) ∈ sp_AW := List.mem_filter.mpr ⟨List.mem_of_getElem? (i := 868) rfl, rfl⟩
set_option maxRecDepth 100000 in
theorem sp_tc_127 : sp_code (yX6_canLay, cX6_canLay, 2, (some .boolean), [], 6, 1, 1, 22, 0) ∈ sp_AW := List.mem_filter.mpr ⟨List.mem_of_getElem? (i := 884) rfl, rfl⟩
set_option maxRecDepth 100000 in
theorem sp_tc_128 : sp_code (yX6_lay, cX6_lay, 3, (some .int), [], 6, 2, 3, 67, 0) ∈ sp_AW := List.mem_filter.mpr ⟨List.mem_of_getElem? (i := 880) rfl, rfl⟩
set_option maxRecDepth 100000 in
theorem sp_tc_129 : sp_code (yX6_wakes, cX6_wakes, 3, (some .int), [], 6, 1, 1, 23, 0) ∈ sp_AW := List.mem_filter.mpr ⟨List.mem_of_getElem? (i := 908) rfl, rfl⟩
set_option maxRecDepth 100000 in
theorem sp_tc_130 : sp_code (yX6_wake, cX6_wake, 2, (some .int), [], 6, 1, 2, 45, 0) ∈ sp_AW := List.mem_filter.mpr ⟨List.mem_of_getElem? (i := 904) rfl, rfl⟩
set_option maxRecDepth 100000 in
theorem sp_tc_131 : sp_code (yX6_pass, cX6_pass, 3, (some .int), [], 6, 1, 8, 179, 0) ∈ sp_AW := List.mem_filter.mpr ⟨List.mem_of_getElem? (i := 912) rfl, rfl⟩
set_option maxRecDepth 100000 in
theorem sp_tc_132 : sp_code (yX6_set, cX6_set, 5, (some .int), [], 6, 2, 1, 22, 0) ∈ sp_AW := List.mem_filter.mpr ⟨List.mem_of_getElem? (i := 972) rfl, rfl⟩
set_option maxRecDepth 100000 in
theorem sp_tc_133 : sp_code (yX6_append, cX6_append, 2, (some .int), [], 6, 1, 1, 22, 0) ∈ sp_AW := List.mem_filter.mpr ⟨List.mem_of_getElem? (i := 976) rfl, rfl⟩
set_option maxRecDepth 100000 in
theorem sp_tc_134 : sp_code (yX6_clearBuffer, cX6_clearBuffer, 2, (some .int), [], 6, 0, 0, 0, 0) ∈ sp_AW := List.mem_filter.mpr ⟨List.mem_of_getElem? (i := 980) rfl, rfl⟩
set_option maxRecDepth 100000 in
theorem sp_tc_135 : sp_code (yX6_sign, cX6_sign, 1, (some .int), [], 6, 0, 0, 0, 0) ∈ sp_AW := List.mem_filter.mpr ⟨List.mem_of_getElem? (i := 996) rfl, rfl⟩
set_option maxRecDepth 100000 in
theorem sp_tc_136 : sp_code (yX6_digit, cX6_digit, 4, (some .int), [], 6, 2, 1, 22, 0) ∈ sp_AW := List.mem_filter.mpr ⟨List.mem_of_getElem? (i := 1000) rfl, rfl⟩
set_option maxRecDepth 100000 in
theorem sp_tc_137 : sp_code (yX6_number, cX6_number, 2, (some .int), [], 6, 0, 2, 45, 0) ∈ sp_AW := List.mem_filter.mpr ⟨List.mem_of_getElem? (i := 1004) rfl, rfl⟩
set_option maxRecDepth 100000 in
theorem sp_tc_138 : sp_code (yX6_readsOrder, cX6_readsOrder, 3, none, [], 6, 0, 3, 66, 0) ∈ sp_AW := List.mem_filter.mpr ⟨List.mem_of_getElem? (i := 992) rfl, rfl⟩
set_option maxRecDepth 100000 in
theorem sp_tc_139 : sp_code (yX6_readsAll, cX6_readsAll, 1, none, [], 6, 0, 4, 88, 0) ∈ sp_AW := List.mem_filter.mpr ⟨List.mem_of_getElem? (i := 988) rfl, rfl⟩
set_option maxRecDepth 100000 in
theorem sp_tc_140 : sp_code (yX6_firstError, cX6_firstError, 1, (some .int), [], 6, 0, 5, 108, 0) ∈ sp_AW := List.mem_filter.mpr ⟨List.mem_of_getElem? (i := 984) rfl, rfl⟩
set_option maxRecDepth 100000 in
theorem sp_tc_141 : sp_code (yX6_obeys, cX6_obeys, 5, (some .boolean), [], 6, 1, 8, 179, 0) ∈ sp_AW := List.mem_filter.mpr ⟨List.mem_of_getElem? (i := 1012) rfl, rfl⟩
set_option maxRecDepth 100000 in
theorem sp_tc_142 : sp_code (yX6_obey, cX6_obey, 2, (some .int), [], 6, 0, 9, 203, 0) ∈ sp_AW := List.mem_filter.mpr ⟨List.mem_of_getElem? (i := 1008) rfl, rfl⟩
set_option maxRecDepth 100000 in
theorem sp_tc_143 : sp_code (yX6_keep, cX6_keep, 2, (some .int), [], 6, 0, 0, 0, 0) ∈ sp_AW := List.mem_filter.mpr ⟨List.mem_of_getElem? (i := 1016) rfl, rfl⟩
set_option maxRecDepth 100000 in
theorem sp_tc_144 : sp_code (yX6_goBack, cX6_goBack, 2, (some .int), [], 6, 0, 1, 21, 0) ∈ sp_AW := List.mem_filter.mpr ⟨List.mem_of_getElem? (i := 1020) rfl, rfl⟩
set_option maxRecDepth 100000 in
theorem sp_tc_145 : sp_code (yX6_undo, cX6_undo, 2, (some .int), [], 6, 0, 1, 21, 0) ∈ sp_AW := List.mem_filter.mpr ⟨List.mem_of_getElem? (i := 1024) rfl, rfl⟩
set_option maxRecDepth 100000 in
theorem sp_tc_146 : sp_code (yX6_load, cX6_load, 4, (some .int), [], 6, 1, 1, 22, 0) ∈ sp_AW := List.mem_filter.mpr ⟨List.mem_of_getElem? (i := 1036) rfl, rfl⟩
set_option maxRecDepth 100000 in
theorem sp_tc_147 : sp_code (yX6_tellsWho, cX6_tellsWho, 3, (some .int), [], 6, 2, 2, 45, 0) ∈ sp_AW := List.mem_filter.mpr ⟨List.mem_of_getElem? (i := 1032) rfl, rfl⟩
set_option maxRecDepth 100000 in
theorem sp_tc_148 : sp_code (yX6_seamstress, cX6_seamstress, 3, (some .int), [], 6, 2, 3, 67, 0) ∈ sp_AW := List.mem_filter.mpr ⟨List.mem_of_getElem? (i := 1028) rfl, rfl⟩
set_option maxRecDepth 100000 in
theorem sp_tc_149 : sp_code (yX6_pile, cX6_pile, 3, (some .int), [], 6, 2, 2, 43, 0) ∈ sp_AW := List.mem_filter.mpr ⟨List.mem_of_getElem? (i := 1040) rfl, rfl⟩
set_option maxRecDepth 100000 in
theorem sp_tc_150 : sp_code (yX6_shirt, cX6_shirt, 3, (some .int), [], 6, 2, 1, 22, 0) ∈ sp_AW := List.mem_filter.mpr ⟨List.mem_of_getElem? (i := 1044) rfl, rfl⟩
set_option maxRecDepth 100000 in
theorem sp_tc_151 : sp_code (yX6_tellsCount, cX6_tellsCount, 2, (some .int), [], 6, 1, 2, 45, 0) ∈ sp_AW := List.mem_filter.mpr ⟨List.mem_of_getElem? (i := 1052) rfl, rfl⟩
set_option maxRecDepth 100000 in
theorem sp_tc_152 : sp_code (yX6_count, cX6_count, 2, (some .int), [], 6, 1, 3, 66, 0) ∈ sp_AW := List.mem_filter.mpr ⟨List.mem_of_getElem? (i := 1048) rfl, rfl⟩
set_option maxRecDepth 100000 in
theorem sp_tc_153 : sp_code (yX6_setting, cX6_setting, 2, (some .int), [], 6, 1, 1, 22, 0) ∈ sp_AW := List.mem_filter.mpr ⟨List.mem_of_getElem? (i := 1064) rfl, rfl⟩
set_option maxRecDepth 100000 in
theorem sp_tc_154 : sp_code (yX6_choice, cX6_choice, 2, (some .int), [], 6, 1, 3, 70, 0) ∈ sp_AW := List.mem_filter.mpr ⟨List.mem_of_getElem? (i := 1068) rfl, rfl⟩
set_option maxRecDepth 100000 in
theorem sp_tc_155 : sp_code (yX6_until, cX6_until, 2, (some .int), [], 6, 0, 7, 157, 0) ∈ sp_AW := List.mem_filter.mpr ⟨List.mem_of_getElem? (i := 1084) rfl, rfl⟩
set_option maxRecDepth 100000 in
theorem sp_tc_156 : sp_code (yX6_done, cX6_done, 4, (some .int), [], 6, 2, 8, 178, 0) ∈ sp_AW := List.mem_filter.mpr ⟨List.mem_of_getElem? (i := 1076) rfl, rfl⟩
set_option maxRecDepth 100000 in
theorem sp_tc_157 : sp_code (yX6_doneIn, cX6_doneIn, 1, (some .int), [], 6, 0, 9, 201, 0) ∈ sp_AW := List.mem_filter.mpr ⟨List.mem_of_getElem? (i := 1072) rfl, rfl⟩
set_option maxRecDepth 100000 in
theorem sp_tc_158 : sp_code (yX6_doneAlone, cX6_doneAlone, 1, (some .int), [], 6, 0, 9, 201, 0) ∈ sp_AW := List.mem_filter.mpr ⟨List.mem_of_getElem? (i := 1092) rfl, rfl⟩
set_option maxRecDepth 100000 in
theorem sp_tc_159 : sp_code (yX6_doneWith, cX6_doneWith, 2, (some .int), [], 6, 1, 9, 201, 0) ∈ sp_AW := List.mem_filter.mpr ⟨List.mem_of_getElem? (i := 1096) rfl, rfl⟩
set_option maxRecDepth 100000 in
theorem sp_tc_160 : sp_code (yX6_would, cX6_would, 6, (some .int), [], 6, 2, 8, 179, 0) ∈ sp_AW := List.mem_filter.mpr ⟨List.mem_of_getElem? (i := 1104) rfl, rfl⟩
set_option maxRecDepth 100000 in
theorem sp_tc_161 : sp_code (yX6_ifPassed, cX6_ifPassed, 3, (some .int), [], 6, 2, 9, 204, 0) ∈ sp_AW := List.mem_filter.mpr ⟨List.mem_of_getElem? (i := 1100) rfl, rfl⟩
set_option maxRecDepth 100000 in
theorem sp_tc_162 : sp_code (yX6_share, cX6_share, 1, (some .double), [], 6, 0, 2, 45, 0) ∈ sp_AW := List.mem_filter.mpr ⟨List.mem_of_getElem? (i := 1112) rfl, rfl⟩
set_option maxRecDepth 100000 in
theorem sp_tc_163 : sp_code (yX6_takenShare, cX6_takenShare, 1, (some .double), [], 6, 0, 3, 65, 0) ∈ sp_AW := List.mem_filter.mpr ⟨List.mem_of_getElem? (i := 1108) rfl, rfl⟩
set_option maxRecDepth 100000 in
theorem sp_tc_164 : sp_code (yX6_even, cX6_even, 4, (some .float), [], 6, 0, 2, 45, 0) ∈ sp_AW := List.mem_filter.mpr ⟨List.mem_of_getElem? (i := 1120) rfl, rfl⟩
set_option maxRecDepth 100000 in
theorem sp_tc_165 : sp_code (yX6_evenness, cX6_evenness, 1, (some .float), [], 6, 0, 3, 68, 0) ∈ sp_AW := List.mem_filter.mpr ⟨List.mem_of_getElem? (i := 1116) rfl, rfl⟩
set_option maxRecDepth 100000 in
theorem sp_tc_166 : sp_code (yX6_hashes, cX6_hashes, 3, none, [], 6, 1, 0, 0, 0) ∈ sp_AW := List.mem_filter.mpr ⟨List.mem_of_getElem? (i := 1129) rfl, rfl⟩
set_option maxRecDepth 100000 in
theorem sp_tc_167 : sp_code (yX6_hashesWho, cX6_hashesWho, 3, none, [], 6, 1, 3, 70, 0) ∈ sp_AW := List.mem_filter.mpr ⟨List.mem_of_getElem? (i := 1134) rfl, rfl⟩
set_option maxRecDepth 100000 in
theorem sp_tc_168 : sp_code (yX6_digest, cX6_digest, 2, (some .long), [], 6, 0, 9, 204, 0) ∈ sp_AW := List.mem_filter.mpr ⟨List.mem_of_getElem? (i := 1124) rfl, rfl⟩
set_option maxRecDepth 100000 in
theorem sp_tc_169 : sp_code (yL_hire, cL_hire, 4, (some .int), [(0, 9, 12, 13), (0, 9, 15, 15)], 7, 3, 9, 141, 1) ∈ sp_AW := List.mem_filter.mpr ⟨List.mem_of_getElem? (i := 607) rfl, rfl⟩
set_option maxRecDepth 100000 in
theorem sp_tc_170 : sp_code (yL_speed, cL_speed, 5, (some .int), [(0, 10, 13, 21), (0, 10, 17, 13)], 7, 4, 9, 143, 1) ∈ sp_AW := List.mem_filter.mpr ⟨List.mem_of_getElem? (i := 641) rfl, rfl⟩
set_option maxRecDepth 100000 in
theorem sp_tc_171 : sp_code (yL_lay, cL_lay, 5, (some .int), [(0, 10, 13, 21), (0, 10, 17, 13), (0, 10, 21, 15)], 7, 4, 9, 143, 1) ∈ sp_AW := List.mem_filter.mpr ⟨List.mem_of_getElem? (i := 653) rfl, rfl⟩
set_option maxRecDepth 100000 in
theorem sp_tc_172 : sp_code (yL_wake, cL_wake, 4, (some .int), [(0, 9, 12, 21)], 7, 3, 9, 142, 1) ∈ sp_AW := List.mem_filter.mpr ⟨List.mem_of_getElem? (i := 667) rfl, rfl⟩
set_option maxRecDepth 100000 in
theorem sp_tc_173 : sp_code (yL_pass, cL_pass, 4, (some .int), [(0, 9, 12, 13)], 7, 3, 8, 159, 1) ∈ sp_AW := List.mem_filter.mpr ⟨List.mem_of_getElem? (i := 678) rfl, rfl⟩
set_option maxRecDepth 100000 in
theorem sp_tc_174 : sp_code (yL_set, cL_set, 5, (some .int), [(0, 10, 13, 21), (0, 10, 17, 13)], 7, 4, 9, 143, 1) ∈ sp_AW := List.mem_filter.mpr ⟨List.mem_of_getElem? (i := 686) rfl, rfl⟩
set_option maxRecDepth 100000 in
theorem sp_tc_175 : sp_code (yL_append, cL_append, 4, (some .int), [(0, 9, 12, 13), (0, 9, 15, 15)], 7, 3, 8, 121, 1) ∈ sp_AW := List.mem_filter.mpr ⟨List.mem_of_getElem? (i := 698) rfl, rfl⟩
set_option maxRecDepth 100000 in
theorem sp_tc_176 : sp_code (yL_obey, cL_obey, 3, (some .int), [(0, 8, 11, 13)], 7, 2, 8, 182, 1) ∈ sp_AW := List.mem_filter.mpr ⟨List.mem_of_getElem? (i := 711) rfl, rfl⟩
set_option maxRecDepth 100000 in
theorem sp_tc_177 : sp_code (yL_goBack, cL_goBack, 3, (some .int), [(0, 8, 11, 15)], 7, 2, 8, 120, 1) ∈ sp_AW := List.mem_filter.mpr ⟨List.mem_of_getElem? (i := 736) rfl, rfl⟩
set_option maxRecDepth 100000 in
theorem sp_tc_178 : sp_code (yL_undo, cL_undo, 3, (some .int), [(0, 8, 11, 15)], 7, 2, 8, 120, 1) ∈ sp_AW := List.mem_filter.mpr ⟨List.mem_of_getElem? (i := 744) rfl, rfl⟩
set_option maxRecDepth 100000 in
theorem sp_tc_179 : sp_code (yL_seamstress, cL_seamstress, 5, (some .int), [(0, 10, 13, 21), (0, 10, 17, 13)], 7, 4, 9, 143, 1) ∈ sp_AW := List.mem_filter.mpr ⟨List.mem_of_getElem? (i := 756) rfl, rfl⟩
set_option maxRecDepth 100000 in
theorem sp_tc_180 : sp_code (yL_pile, cL_pile, 5, (some .int), [(0, 10, 13, 21), (0, 10, 17, 13)], 7, 4, 9, 143, 1) ∈ sp_AW := List.mem_filter.mpr ⟨List.mem_of_getElem? (i := 760) rfl, rfl⟩
set_option maxRecDepth 100000 in
theorem sp_tc_181 : sp_code (yL_shirt, cL_shirt, 5, (some .int), [(0, 10, 13, 21), (0, 10, 17, 13)], 7, 4, 8, 122, 1) ∈ sp_AW := List.mem_filter.mpr ⟨List.mem_of_getElem? (i := 764) rfl, rfl⟩
set_option maxRecDepth 100000 in
theorem sp_tc_182 : sp_code (yL_count, cL_count, 4, (some .int), [(0, 9, 12, 13)], 7, 3, 8, 121, 1) ∈ sp_AW := List.mem_filter.mpr ⟨List.mem_of_getElem? (i := 768) rfl, rfl⟩
set_option maxRecDepth 100000 in
theorem sp_tc_183 : sp_code (yL_setting, cL_setting, 4, (some .int), [(0, 9, 12, 21)], 7, 3, 9, 141, 1) ∈ sp_AW := List.mem_filter.mpr ⟨List.mem_of_getElem? (i := 772) rfl, rfl⟩
set_option maxRecDepth 100000 in
theorem sp_tc_184 : sp_code (yL_choice, cL_choice, 4, (some .int), [(0, 9, 12, 21)], 7, 3, 9, 142, 1) ∈ sp_AW := List.mem_filter.mpr ⟨List.mem_of_getElem? (i := 776) rfl, rfl⟩
set_option maxRecDepth 100000 in
theorem sp_tc_185 : sp_code (yL_doneWith, cL_doneWith, 4, (some .int), [(0, 9, 12, 13)], 7, 3, 9, 158, 1) ∈ sp_AW := List.mem_filter.mpr ⟨List.mem_of_getElem? (i := 780) rfl, rfl⟩
set_option maxRecDepth 100000 in
theorem sp_tc_186 : sp_code (yL_ifPassed, cL_ifPassed, 5, (some .int), [(0, 10, 13, 13)], 7, 4, 8, 159, 1) ∈ sp_AW := List.mem_filter.mpr ⟨List.mem_of_getElem? (i := 784) rfl, rfl⟩
set_option maxRecDepth 100000 in
theorem sp_T_code : ∀ w ∈ sp_T0.map sp_code, w ∈ sp_AW := List.forall_mem_cons.mpr ⟨sp_tc_0, List.forall_mem_cons.mpr ⟨sp_tc_1, List.forall_mem_cons.mpr ⟨sp_tc_2, List.forall_mem_cons.mpr ⟨sp_tc_3, List.forall_mem_cons.mpr ⟨sp_tc_4, List.forall_mem_cons.mpr ⟨sp_tc_5, List.forall_mem_cons.mpr ⟨sp_tc_6, List.forall_mem_cons.mpr ⟨sp_tc_7, List.forall_mem_cons.mpr ⟨sp_tc_8, List.forall_mem_cons.mpr ⟨sp_tc_9, List.forall_mem_cons.mpr ⟨sp_tc_10, List.forall_mem_cons.mpr ⟨sp_tc_11, List.forall_mem_cons.mpr ⟨sp_tc_12, List.forall_mem_cons.mpr ⟨sp_tc_13, List.forall_mem_cons.mpr ⟨sp_tc_14, List.forall_mem_cons.mpr ⟨sp_tc_15, List.forall_mem_cons.mpr ⟨sp_tc_16, List.forall_mem_cons.mpr ⟨sp_tc_17, List.forall_mem_cons.mpr ⟨sp_tc_18, List.forall_mem_cons.mpr ⟨sp_tc_19, List.forall_mem_cons.mpr ⟨sp_tc_20, List.forall_mem_cons.mpr ⟨sp_tc_21, List.forall_mem_cons.mpr ⟨sp_tc_22, List.forall_mem_cons.mpr ⟨sp_tc_23, List.forall_mem_cons.mpr ⟨sp_tc_24, List.forall_mem_cons.mpr ⟨sp_tc_25, List.forall_mem_cons.mpr ⟨sp_tc_26, List.forall_mem_cons.mpr ⟨sp_tc_27, List.forall_mem_cons.mpr ⟨sp_tc_28, List.forall_mem_cons.mpr ⟨sp_tc_29, List.forall_mem_cons.mpr ⟨sp_tc_30, List.forall_mem_cons.mpr ⟨sp_tc_31, List.forall_mem_cons.mpr ⟨sp_tc_32, List.forall_mem_cons.mpr ⟨sp_tc_33, List.forall_mem_cons.mpr ⟨sp_tc_34, List.forall_mem_cons.mpr ⟨sp_tc_35, List.forall_mem_cons.mpr ⟨sp_tc_36, List.forall_mem_cons.mpr ⟨sp_tc_37, List.forall_mem_cons.mpr ⟨sp_tc_38, List.forall_mem_cons.mpr ⟨sp_tc_39, List.forall_mem_cons.mpr ⟨sp_tc_40, List.forall_mem_cons.mpr ⟨sp_tc_41, List.forall_mem_cons.mpr ⟨sp_tc_42, List.forall_mem_cons.mpr ⟨sp_tc_43, List.forall_mem_cons.mpr ⟨sp_tc_44, List.forall_mem_cons.mpr ⟨sp_tc_45, List.forall_mem_cons.mpr ⟨sp_tc_46, List.forall_mem_cons.mpr ⟨sp_tc_47, List.forall_mem_cons.mpr ⟨sp_tc_48, List.forall_mem_cons.mpr ⟨sp_tc_49, List.forall_mem_cons.mpr ⟨sp_tc_50, List.forall_mem_cons.mpr ⟨sp_tc_51, List.forall_mem_cons.mpr ⟨sp_tc_52, List.forall_mem_cons.mpr ⟨sp_tc_53, List.forall_mem_cons.mpr ⟨sp_tc_54, List.forall_mem_cons.mpr ⟨sp_tc_55, List.forall_mem_cons.mpr ⟨sp_tc_56, List.forall_mem_cons.mpr ⟨sp_tc_57, List.forall_mem_cons.mpr ⟨sp_tc_58, List.forall_mem_cons.mpr ⟨sp_tc_59, List.forall_mem_cons.mpr ⟨sp_tc_60, List.forall_mem_cons.mpr ⟨sp_tc_61, List.forall_mem_cons.mpr ⟨sp_tc_62, List.forall_mem_cons.mpr ⟨sp_tc_63, List.forall_mem_cons.mpr ⟨sp_tc_64, List.forall_mem_cons.mpr ⟨sp_tc_65, List.forall_mem_cons.mpr ⟨sp_tc_66, List.forall_mem_cons.mpr ⟨sp_tc_67, List.forall_mem_cons.mpr ⟨sp_tc_68, List.forall_mem_cons.mpr ⟨sp_tc_69, List.forall_mem_cons.mpr ⟨sp_tc_70, List.forall_mem_cons.mpr ⟨sp_tc_71, List.forall_mem_cons.mpr ⟨sp_tc_72, List.forall_mem_cons.mpr ⟨sp_tc_73, List.forall_mem_cons.mpr ⟨sp_tc_74, List.forall_mem_cons.mpr ⟨sp_tc_75, List.forall_mem_cons.mpr ⟨sp_tc_76, List.forall_mem_cons.mpr ⟨sp_tc_77, List.forall_mem_cons.mpr ⟨sp_tc_78, List.forall_mem_cons.mpr ⟨sp_tc_79, List.forall_mem_cons.mpr ⟨sp_tc_80, List.forall_mem_cons.mpr ⟨sp_tc_81, List.forall_mem_cons.mpr ⟨sp_tc_82, List.forall_mem_cons.mpr ⟨sp_tc_83, List.forall_mem_cons.mpr ⟨sp_tc_84, List.forall_mem_cons.mpr ⟨sp_tc_85, List.forall_mem_cons.mpr ⟨sp_tc_86, List.forall_mem_cons.mpr ⟨sp_tc_87, List.forall_mem_cons.mpr ⟨sp_tc_88, List.forall_mem_cons.mpr ⟨sp_tc_89, List.forall_mem_cons.mpr ⟨sp_tc_90, List.forall_mem_cons.mpr ⟨sp_tc_91, List.forall_mem_cons.mpr ⟨sp_tc_92, List.forall_mem_cons.mpr ⟨sp_tc_93, List.forall_mem_cons.mpr ⟨sp_tc_94, List.forall_mem_cons.mpr ⟨sp_tc_95, List.forall_mem_cons.mpr ⟨sp_tc_96, List.forall_mem_cons.mpr ⟨sp_tc_97, List.forall_mem_cons.mpr ⟨sp_tc_98, List.forall_mem_cons.mpr ⟨sp_tc_99, List.forall_mem_cons.mpr ⟨sp_tc_100, List.forall_mem_cons.mpr ⟨sp_tc_101, List.forall_mem_cons.mpr ⟨sp_tc_102, List.forall_mem_cons.mpr ⟨sp_tc_103, List.forall_mem_cons.mpr ⟨sp_tc_104, List.forall_mem_cons.mpr ⟨sp_tc_105, List.forall_mem_cons.mpr ⟨sp_tc_106, List.forall_mem_cons.mpr ⟨sp_tc_107, List.forall_mem_cons.mpr ⟨sp_tc_108, List.forall_mem_cons.mpr ⟨sp_tc_109, List.forall_mem_cons.mpr ⟨sp_tc_110, List.forall_mem_cons.mpr ⟨sp_tc_111, List.forall_mem_cons.mpr ⟨sp_tc_112, List.forall_mem_cons.mpr ⟨sp_tc_113, List.forall_mem_cons.mpr ⟨sp_tc_114, List.forall_mem_cons.mpr ⟨sp_tc_115, List.forall_mem_cons.mpr ⟨sp_tc_116, List.forall_mem_cons.mpr ⟨sp_tc_117, List.forall_mem_cons.mpr ⟨sp_tc_118, List.forall_mem_cons.mpr ⟨sp_tc_119, List.forall_mem_cons.mpr ⟨sp_tc_120, List.forall_mem_cons.mpr ⟨sp_tc_121, List.forall_mem_cons.mpr ⟨sp_tc_122, List.forall_mem_cons.mpr ⟨sp_tc_123, List.forall_mem_cons.mpr ⟨sp_tc_124, List.forall_mem_cons.mpr ⟨sp_tc_125, List.forall_mem_cons.mpr ⟨sp_tc_126, List.forall_mem_cons.mpr ⟨sp_tc_127, List.forall_mem_cons.mpr ⟨sp_tc_128, List.forall_mem_cons.mpr ⟨sp_tc_129, List.forall_mem_cons.mpr ⟨sp_tc_130, List.forall_mem_cons.mpr ⟨sp_tc_131, List.forall_mem_cons.mpr ⟨sp_tc_132, List.forall_mem_cons.mpr ⟨sp_tc_133, List.forall_mem_cons.mpr ⟨sp_tc_134, List.forall_mem_cons.mpr ⟨sp_tc_135, List.forall_mem_cons.mpr ⟨sp_tc_136, List.forall_mem_cons.mpr ⟨sp_tc_137, List.forall_mem_cons.mpr ⟨sp_tc_138, List.forall_mem_cons.mpr ⟨sp_tc_139, List.forall_mem_cons.mpr ⟨sp_tc_140, List.forall_mem_cons.mpr ⟨sp_tc_141, List.forall_mem_cons.mpr ⟨sp_tc_142, List.forall_mem_cons.mpr ⟨sp_tc_143, List.forall_mem_cons.mpr ⟨sp_tc_144, List.forall_mem_cons.mpr ⟨sp_tc_145, List.forall_mem_cons.mpr ⟨sp_tc_146, List.forall_mem_cons.mpr ⟨sp_tc_147, List.forall_mem_cons.mpr ⟨sp_tc_148, List.forall_mem_cons.mpr ⟨sp_tc_149, List.forall_mem_cons.mpr ⟨sp_tc_150, List.forall_mem_cons.mpr ⟨sp_tc_151, List.forall_mem_cons.mpr ⟨sp_tc_152, List.forall_mem_cons.mpr ⟨sp_tc_153, List.forall_mem_cons.mpr ⟨sp_tc_154, List.forall_mem_cons.mpr ⟨sp_tc_155, List.forall_mem_cons.mpr ⟨sp_tc_156, List.forall_mem_cons.mpr ⟨sp_tc_157, List.forall_mem_cons.mpr ⟨sp_tc_158, List.forall_mem_cons.mpr ⟨sp_tc_159, List.forall_mem_cons.mpr ⟨sp_tc_160, List.forall_mem_cons.mpr ⟨sp_tc_161, List.forall_mem_cons.mpr ⟨sp_tc_162, List.forall_mem_cons.mpr ⟨sp_tc_163, List.forall_mem_cons.mpr ⟨sp_tc_164, List.forall_mem_cons.mpr ⟨sp_tc_165, List.forall_mem_cons.mpr ⟨sp_tc_166, List.forall_mem_cons.mpr ⟨sp_tc_167, List.forall_mem_cons.mpr ⟨sp_tc_168, List.forall_mem_cons.mpr ⟨sp_tc_169, List.forall_mem_cons.mpr ⟨sp_tc_170, List.forall_mem_cons.mpr ⟨sp_tc_171, List.forall_mem_cons.mpr ⟨sp_tc_172, List.forall_mem_cons.mpr ⟨sp_tc_173, List.forall_mem_cons.mpr ⟨sp_tc_174, List.forall_mem_cons.mpr ⟨sp_tc_175, List.forall_mem_cons.mpr ⟨sp_tc_176, List.forall_mem_cons.mpr ⟨sp_tc_177, List.forall_mem_cons.mpr ⟨sp_tc_178, List.forall_mem_cons.mpr ⟨sp_tc_179, List.forall_mem_cons.mpr ⟨sp_tc_180, List.forall_mem_cons.mpr ⟨sp_tc_181, List.forall_mem_cons.mpr ⟨sp_tc_182, List.forall_mem_cons.mpr ⟨sp_tc_183, List.forall_mem_cons.mpr ⟨sp_tc_184, List.forall_mem_cons.mpr ⟨sp_tc_185, List.forall_mem_cons.mpr ⟨sp_tc_186, fun _ h => absurd h List.not_mem_nil⟩⟩⟩⟩⟩⟩⟩⟩⟩⟩⟩⟩⟩⟩⟩⟩⟩⟩⟩⟩⟩⟩⟩⟩⟩⟩⟩⟩⟩⟩⟩⟩⟩⟩⟩⟩⟩⟩⟩⟩⟩⟩⟩⟩⟩⟩⟩⟩⟩⟩⟩⟩⟩⟩⟩⟩⟩⟩⟩⟩⟩⟩⟩⟩⟩⟩⟩⟩⟩⟩⟩⟩⟩⟩⟩⟩⟩⟩⟩⟩⟩⟩⟩⟩⟩⟩⟩⟩⟩⟩⟩⟩⟩⟩⟩⟩⟩⟩⟩⟩⟩⟩⟩⟩⟩⟩⟩⟩⟩⟩⟩⟩⟩⟩⟩⟩⟩⟩⟩⟩⟩⟩⟩⟩⟩⟩⟩⟩⟩⟩⟩⟩⟩⟩⟩⟩⟩⟩⟩⟩⟩⟩⟩⟩⟩⟩⟩⟩⟩⟩⟩⟩⟩⟩⟩⟩⟩⟩⟩⟩⟩⟩⟩⟩⟩⟩⟩⟩⟩⟩⟩⟩⟩⟩⟩⟩⟩⟩⟩⟩⟩⟩⟩⟩⟩⟩⟩
set_option maxRecDepth 100000 in
theorem sp_T_ini : ∀ w ∈ sp_T0.map (fun e => Cond.initialized e.1.cls), w ∈ sp_AW := sp_pick _ [68, 68, 68, 68, 69, 69, 69, 69, 69, 69, 69, 69, 69, 69, 69, 69, 66, 66, 66, 66, 66, 66, 66, 65, 65, 65, 65, 65, 65, 65, 65, 65, 65, 65, 65, 65, 65, 65, 65, 65, 65, 65, 65, 65, 65, 65, 65, 65, 65, 67, 67, 67, 67, 67, 67, 67, 67, 67, 64, 64, 64, 64, 64, 64, 64, 64, 64, 64, 64, 64, 64, 64, 64, 64, 64, 64, 64, 64, 64, 64, 64, 64, 64, 64, 64, 64, 64, 64, 64, 64, 64, 64, 64, 64, 70, 70, 70, 70, 70, 70, 70, 70, 70, 70, 70, 70, 70, 70, 70, 70, 70, 70, 70, 70, 70, 70, 70, 70, 70, 70, 70, 70, 70, 70, 70, 70, 70, 70, 70, 70, 70, 70, 70, 70, 70, 70, 70, 70, 70, 70, 70, 70, 70, 70, 70, 70, 70, 70, 70, 70, 70, 70, 70, 70, 70, 70, 70, 70, 70, 70, 70, 70, 70, 70, 70, 70, 70, 70, 70, 63, 63, 63, 63, 63, 63, 63, 63, 63, 63, 63, 63, 63, 63, 63, 63, 63, 63] (by decide +kernel) (by decide +kernel)
set_option maxRecDepth 100000 in
theorem sp_T_inst : ∀ w ∈ (sp_T0.filter (fun e => decide (e.2.2.2.2.2.2.2.2.2 ≠ 1))).map (fun e => Cond.instanceMethod e.1), w ∈ sp_AW := sp_pick _ [189, 631, 751, 636, 206, 706, 242, 602, 250, 717, 722, 731, 96, 274, 334, 354, 378, 338, 358, 90, 270, 310, 572, 648, 673, 660, 370, 383, 581, 303, 307, 315, 363, 367, 342, 347, 351, 286, 531, 481, 399, 290, 486, 299, 294, 114, 278, 326, 374, 318, 322, 330, 558, 489, 82, 611, 644, 655, 669, 680, 688, 700, 238, 246, 713, 266, 738, 746, 520, 537, 552, 409, 493, 543, 282, 386, 564, 576, 390, 395, 403, 517, 549, 599, 525, 728, 789, 843, 855, 875, 794, 895, 943, 947, 891, 871, 859, 1079, 1087, 899, 887, 959, 955, 963, 935, 939, 931, 951, 967, 927, 923, 919, 915, 1059, 1055, 863, 847, 866, 883, 878, 907, 902, 910, 970, 974, 978, 995, 999, 1003, 991, 987, 982, 1011, 1006, 1014, 1018, 1022, 1035, 1031, 1026, 1038, 1042, 1051, 1046, 1062, 1066, 1083, 1075, 1070, 1090, 1094, 1103, 1098, 1111, 1106, 1119, 1114, 1128, 1133, 1122] (by decide +kernel) (by decide +kernel)
set_option maxRecDepth 100000 in
theorem sp_T_stat : ∀ w ∈ (sp_T0.filter (fun e => decide (e.2.2.2.2.2.2.2.2.2 = 1))).map (fun e => Cond.static e.1), w ∈ sp_AW := sp_pick _ [254, 257, 263, 260, 588, 594, 568, 497, 851, 606, 640, 652, 666, 677, 685, 697, 710, 735, 743, 755, 759, 763, 767, 771, 775, 779, 783] (by decide +kernel) (by decide +kernel)
set_option maxRecDepth 100000 in
theorem sp_T_sel : ∀ w ∈ (sp_T0.filter (fun e => decide (e.2.2.2.2.2.2.2.2.2 = 0))).map (fun e => Cond.selects e.1.cls e.1 e.1), w ∈ sp_AW := sp_pick _ [632, 752, 15, 707, 243, 603, 251, 718, 723, 732, 275, 335, 355, 379, 339, 359, 271, 311, 573, 649, 674, 661, 371, 8, 582, 1, 2, 3, 6, 7, 343, 4, 5, 287, 532, 482, 400, 291, 10, 0, 295, 279, 327, 375, 319, 323, 331, 559, 490, 612, 645, 656, 670, 681, 689, 701, 239, 247, 714, 267, 739, 747, 521, 538, 553, 410, 494, 544, 283, 387, 565, 577, 391, 396, 404, 11, 13, 14, 12, 16, 844, 18, 22, 17, 26, 36, 37, 25, 21, 19, 55, 57, 27, 24, 40, 39, 41, 34, 35, 33, 38, 42, 32, 31, 30, 29, 53, 52, 20, 848, 867, 23, 879, 28, 903, 911, 971, 975, 979, 45, 46, 47, 44, 43, 983, 48, 1007, 1015, 1019, 1023, 50, 49, 1027, 1039, 1043, 51, 1047, 1063, 1067, 56, 54, 1071, 1091, 1095, 58, 1099, 59, 1107, 60, 1115, 61, 62, 1123] (by decide +kernel) (by decide +kernel)
def sp_cls (c : Nat) : String := match c with
  | 0 => RX0
  | 1 => RX1
  | 2 => RX2
  | 3 => RX3
  | 4 => RX4
  | 5 => RX5
  | 6 => RX6
  | _ => RL
def sp_Tf (c : Nat) : u_T := match c with
  | 0 => TX0
  | 1 => TX1
  | 2 => TX2
  | 3 => TX3
  | 4 => TX4
  | 5 => TX5
  | _ => TX6
def sp_N (c : Nat) : Nat := match c with
  | 0 => 2
  | 1 => 2
  | 2 => 2
  | 3 => 15
  | 4 => 4
  | 5 => 6
  | _ => 15
def sp_ty (c : Nat) : Nat → FieldType := match c with
  | 0 => tyX0
  | 1 => tyX1
  | 2 => tyX2
  | 3 => tyX3
  | 4 => tyX4
  | 5 => tyX5
  | _ => tyX6
def sp_flT : List (Nat × Nat × (Nat × Nat)) := [(2, 11, 2, 0), (2, 19, 2, 1), (4, 21, 4, 0), (4, 9, 4, 1), (4, 15, 4, 2), (4, 18, 4, 3), (3, 58, 3, 0), (3, 9, 3, 1), (3, 61, 3, 2), (3, 64, 3, 3), (3, 15, 3, 4), (3, 19, 3, 5), (3, 22, 3, 6), (3, 25, 3, 7), (3, 28, 3, 8), (3, 32, 3, 9), (3, 35, 3, 10), (3, 38, 3, 11), (3, 41, 3, 12), (3, 47, 3, 13), (3, 54, 3, 14), (0, 11, 0, 0), (0, 18, 0, 1), (1, 9, 1, 0), (1, 15, 1, 1), (5, 10, 5, 0), (5, 16, 5, 1), (5, 19, 5, 2), (5, 25, 5, 3), (5, 32, 5, 4), (5, 138, 5, 5), (6, 28, 6, 0), (6, 7, 6, 1), (6, 13, 6, 2), (6, 16, 6, 3), (6, 40, 6, 4), (6, 19, 6, 5), (6, 159, 6, 6), (6, 22, 6, 7), (6, 128, 6, 8), (6, 76, 6, 9), (6, 131, 6, 10), (6, 134, 6, 11), (6, 25, 6, 12), (6, 144, 6, 13), (6, 203, 6, 14)]
def sp_fnT : List (Nat × Nat × (Nat × Nat)) := [(3, 155, 2, 0), (3, 82, 4, 0), (5, 175, 4, 0), (5, 142, 3, 0), (5, 40, 3, 1), (5, 217, 3, 2), (5, 104, 3, 4), (5, 204, 3, 10), (5, 211, 3, 12), (5, 162, 3, 13), (5, 171, 3, 14), (5, 147, 0, 1), (5, 109, 1, 1)]
def sp_flw (q : Nat × Nat × Nat × Nat) : Cond := .fieldLink (sp_cls q.1) q.2.1 (sp_Tf q.2.2.1 q.2.2.2).1 (sp_Tf q.2.2.1 q.2.2.2).2.1 (sp_Tf q.2.2.1 q.2.2.2).2.2.1
def sp_fnw (q : Nat × Nat × Nat × Nat) : Cond := .fieldLinkNest (sp_cls q.1) q.2.1 (sp_Tf q.2.2.1 q.2.2.2).1 (sp_Tf q.2.2.1 q.2.2.2).2.1 (sp_Tf q.2.2.1 q.2.2.2).2.2.1 "SewingPiles"
set_option maxRecDepth 100000 in
theorem sp_fl_in : ∀ w ∈ sp_flT.map sp_flw, w ∈ sp_AW := sp_pick _ [101, 103, 117, 120, 121, 122, 132, 134, 136, 138, 139, 141, 142, 143, 144, 145, 146, 148, 149, 151, 153, 195, 196, 209, 210, 218, 219, 220, 221, 222, 223, 796, 797, 798, 799, 800, 801, 802, 803, 804, 805, 806, 807, 808, 809, 810] (by decide +kernel) (by decide +kernel)
theorem sp_fn_in : ∀ w ∈ sp_fnT.map sp_fnw, w ∈ lw_tbl := sp_pickT _ [102, 118, 119, 133, 135, 137, 140, 147, 150, 152, 154, 197, 211] (by decide +kernel)
theorem sp_fl_ok : ∀ q ∈ sp_flT, q.2.2.1 < 7 ∧ q.2.2.2 < sp_N q.2.2.1 := by decide +kernel
theorem sp_fn_ok : ∀ q ∈ sp_fnT, q.2.2.1 < 7 ∧ q.2.2.2 < sp_N q.2.2.1 := by decide +kernel
def sp_stT : List (Nat × Nat × Nat) := [(5, 95, 0), (5, 99, 1)]
def sp_stn (k : Nat) : String := if k = 0 then "LEAST_SETTINGS" else "MOST_SETTINGS"
set_option maxRecDepth 100000 in
theorem sp_st_in : ∀ w ∈ sp_stT.map (fun q => Cond.fieldLink (sp_cls q.1) q.2.1 "SewingPiles" (sp_stn q.2.2) "[I"), w ∈ sp_AW := sp_pick _ [691, 693] (by decide +kernel) (by decide +kernel)
def sp_clT : List (Nat × Nat × Int64) := [(5, 223, 3319), (5, 225, 31), (6, 211, 3319), (6, 201, 31)]
set_option maxRecDepth 100000 in
theorem sp_cl_in : ∀ w ∈ sp_clT.map (fun q => Cond.constantLong (sp_cls q.1) q.2.1 q.2.2), w ∈ sp_AW := sp_pick _ [406, 407, 1125, 1130] (by decide +kernel) (by decide +kernel)
def sp_cdT : List (Nat × Nat × UInt64) := [(5, 288, 4611686018427387904), (5, 290, 4841369599423283200)]
set_option maxRecDepth 100000 in
theorem sp_cd_in : ∀ w ∈ sp_cdT.map (fun q => Cond.constantDouble (sp_cls q.1) q.2.1 q.2.2), w ∈ sp_AW := sp_pick _ [590, 591] (by decide +kernel) (by decide +kernel)
def sp_cfT : List (Nat × Nat × UInt32) := [(5, 292, 1258291200)]
set_option maxRecDepth 100000 in
theorem sp_cf_in : ∀ w ∈ sp_cfT.map (fun q => Cond.constantFloat (sp_cls q.1) q.2.1 q.2.2), w ∈ sp_AW := sp_pick _ [596] (by decide +kernel) (by decide +kernel)
-- new of a class: its number
def sp_nwT : List (Nat × Nat × Nat) := [(7, 8, 5), (5, 7, 3), (3, 44, 2), (3, 51, 4), (5, 22, 0), (0, 9, 3), (5, 29, 1), (7, 73, 6)]
set_option maxRecDepth 100000 in
theorem sp_nw_in : ∀ w ∈ sp_nwT.map (fun q => Cond.classLink (sp_cls q.1) q.2.1 (sp_cls q.2.2)), w ∈ sp_AW := sp_pick _ [79, 87, 93, 111, 186, 192, 203, 786] (by decide +kernel) (by decide +kernel)
set_option maxRecDepth 100000 in
theorem sp_nw_i1 : ∀ w ∈ sp_nwT.map (fun q => Cond.instantiable (sp_cls q.2.2) (sp_N q.2.2)), w ∈ sp_AW := sp_pick _ [80, 88, 94, 112, 187, 88, 204, 787] (by decide +kernel) (by decide +kernel)
set_option maxRecDepth 100000 in
theorem sp_nw_i2 : ∀ w ∈ sp_nwT.map (fun q => Cond.initialized (sp_cls q.2.2)), w ∈ sp_AW := sp_pick _ [64, 65, 66, 67, 68, 65, 69, 70] (by decide +kernel) (by decide +kernel)
theorem sp_nw_ok : ∀ q ∈ sp_nwT, q.2.2 < 7 := by decide +kernel
def sp_anT : List (Nat × Nat × Unit) := [(0, 9, ())]
set_option maxRecDepth 100000 in
theorem sp_an_in : ∀ w ∈ sp_anT.map (fun q => Cond.classLink (sp_cls q.1) q.2.1 RX3), w ∈ sp_AW := sp_pick _ [192] (by decide +kernel) (by decide +kernel)
def sp_muT : List (Nat × Nat × Unit) := [(2, 17, ())]
set_option maxRecDepth 100000 in
theorem sp_mu_in : ∀ w ∈ sp_muT.map (fun q => Cond.classLink (sp_cls q.1) q.2.1 "[[I"), w ∈ sp_AW := sp_pick _ [99] (by decide +kernel) (by decide +kernel)
set_option maxRecDepth 100000 in
theorem sp_arr_in : ∀ w ∈ [Cond.arrayClass .int, Cond.arrayClass .boolean, Cond.arrayClass .char, Cond.arrayClass .long], w ∈ sp_AW := sp_pick _ [109, 110, 217, 1155] (by decide +kernel) (by decide +kernel)
def sp_caT : List (Nat × Nat × Nat) := [(7, 72, 58), (5, 9, 23), (5, 24, 0), (0, 17, 23), (7, 104, 66), (5, 117, 6), (7, 108, 67), (5, 120, 8), (1, 19, 12), (1, 31, 13), (1, 27, 15), (1, 34, 14), (7, 116, 69), (5, 135, 24), (3, 67, 17), (3, 71, 50), (7, 144, 78), (5, 198, 41), (3, 145, 45), (3, 158, 48), (3, 149, 47), (3, 96, 33), (3, 100, 34), (3, 74, 25), (3, 107, 35), (3, 123, 53), (3, 126, 54), (4, 25, 51), (3, 129, 55), (3, 78, 18), (3, 111, 21), (3, 114, 38), (3, 136, 39), (3, 139, 40), (3, 142, 19), (3, 117, 22), (3, 120, 36), (3, 104, 37), (3, 133, 30), (3, 85, 52), (3, 89, 20), (3, 93, 31), (7, 148, 79), (7, 158, 82), (5, 207, 48), (7, 163, 83), (5, 220, 44), (7, 168, 84), (5, 227, 75), (5, 192, 43), (3, 162, 46), (3, 165, 57), (5, 229, 76), (5, 92, 92), (5, 232, 85), (5, 270, 72), (5, 59, 90), (5, 293, 25), (5, 157, 42), (3, 152, 44), (5, 273, 18), (5, 276, 73), (5, 166, 19), (5, 279, 77), (5, 195, 38), (5, 236, 86), (5, 282, 74), (5, 187, 56), (5, 239, 78), (5, 242, 79), (5, 245, 80), (5, 36, 91), (5, 55, 26), (5, 248, 81), (5, 89, 32), (5, 85, 45), (5, 214, 57), (5, 251, 82), (5, 255, 88), (5, 259, 83), (5, 263, 89), (5, 267, 87), (5, 285, 7), (7, 76, 169), (7, 7, 59), (5, 51, 1), (0, 22, 3), (0, 25, 24), (7, 85, 170), (7, 17, 60), (5, 62, 27), (7, 89, 171), (7, 23, 61), (5, 71, 29), (5, 77, 30), (7, 92, 172), (7, 26, 62), (5, 80, 28), (7, 95, 173), (7, 29, 63), (7, 98, 174), (7, 32, 64), (7, 101, 175), (7, 35, 65), (5, 114, 5), (7, 112, 176), (7, 38, 68), (5, 123, 9), (5, 129, 10), (1, 23, 7), (5, 132, 93), (5, 302, 11), (7, 120, 177), (7, 42, 70), (7, 123, 178), (7, 45, 71), (5, 152, 2), (7, 126, 179), (7, 48, 72), (7, 129, 180), (7, 51, 73), (7, 132, 181), (7, 54, 74), (7, 135, 182), (7, 57, 75), (7, 138, 183), (7, 60, 76), (7, 141, 184), (7, 63, 77), (7, 152, 185), (7, 66, 80), (7, 155, 186), (7, 69, 81), (7, 75, 94), (6, 32, 99), (7, 82, 95), (7, 81, 125), (6, 36, 96), (6, 103, 97), (6, 106, 105), (6, 109, 124), (7, 88, 126), (6, 112, 104), (6, 43, 98), (7, 91, 128), (6, 116, 127), (6, 60, 109), (6, 47, 103), (6, 50, 100), (6, 54, 108), (7, 94, 130), (6, 119, 129), (7, 97, 131), (6, 122, 121), (6, 125, 120), (6, 100, 119), (6, 97, 118), (6, 80, 115), (6, 69, 113), (6, 73, 114), (6, 63, 101), (6, 57, 102), (6, 84, 116), (6, 88, 111), (6, 66, 110), (6, 91, 112), (6, 94, 117), (7, 100, 132), (7, 103, 133), (7, 107, 134), (7, 111, 140), (6, 153, 139), (6, 150, 138), (6, 137, 135), (6, 141, 136), (6, 147, 137), (7, 115, 142), (6, 156, 141), (7, 119, 143), (7, 122, 144), (7, 125, 145), (7, 128, 148), (6, 165, 147), (6, 162, 146), (7, 131, 149), (7, 134, 150), (7, 137, 152), (6, 174, 151), (6, 168, 123), (6, 171, 122), (7, 140, 153), (7, 143, 154), (7, 147, 157), (6, 186, 156), (6, 177, 106), (6, 180, 155), (6, 183, 107), (7, 151, 158), (7, 154, 159), (7, 157, 161), (6, 190, 160), (7, 162, 163), (6, 193, 162), (7, 167, 165), (6, 197, 164), (7, 172, 168), (6, 207, 166), (6, 213, 167)]
def sp_cnT : List (Nat × Nat × Nat) := [(3, 46, 16), (3, 53, 49), (5, 31, 4)]
def sp_nm (y : Nat) : MethodName := match sp_T[y]? with
  | some e => e.1
  | none => yL_law
set_option maxRecDepth 100000 in
theorem sp_ca_in : ∀ w ∈ sp_caT.map (fun q => Cond.methodLink (sp_cls q.1) q.2.1 (sp_nm q.2.2)), w ∈ sp_AW := sp_pick _ [81, 89, 188, 194, 237, 241, 245, 249, 253, 256, 259, 262, 265, 269, 273, 277, 281, 285, 289, 293, 297, 301, 305, 309, 313, 317, 321, 325, 329, 333, 337, 341, 345, 349, 353, 357, 361, 365, 369, 373, 377, 381, 385, 389, 393, 394, 398, 402, 408, 480, 484, 488, 492, 496, 515, 519, 523, 527, 530, 534, 535, 536, 541, 542, 546, 547, 551, 557, 561, 562, 563, 567, 571, 575, 580, 584, 585, 586, 587, 592, 593, 597, 601, 605, 610, 630, 634, 638, 639, 643, 647, 651, 654, 659, 664, 665, 668, 672, 676, 679, 684, 687, 696, 699, 705, 709, 712, 716, 721, 725, 726, 730, 734, 737, 742, 745, 750, 754, 757, 758, 761, 762, 765, 766, 769, 770, 773, 774, 777, 778, 781, 782, 785, 788, 792, 842, 846, 850, 853, 857, 861, 865, 869, 873, 877, 881, 885, 889, 893, 897, 901, 905, 909, 913, 917, 921, 925, 929, 933, 937, 941, 945, 949, 953, 957, 961, 965, 969, 973, 977, 981, 985, 989, 993, 997, 1001, 1005, 1009, 1013, 1017, 1021, 1025, 1029, 1033, 1037, 1041, 1045, 1049, 1053, 1057, 1061, 1065, 1069, 1073, 1077, 1081, 1085, 1089, 1093, 1097, 1101, 1105, 1109, 1113, 1117, 1121, 1126, 1131] (by decide +kernel) (by decide +kernel)
theorem sp_cn_in : ∀ w ∈ sp_cnT.map (fun q => Cond.methodLinkNest (sp_cls q.1) q.2.1 (sp_nm q.2.2) "SewingPiles"), w ∈ lw_tbl := sp_pickT _ [95, 113, 205] (by decide +kernel)
theorem sp_ca_ok : ∀ q ∈ sp_caT, q.2.2 < 187 := by decide +kernel
theorem sp_cn_ok : ∀ q ∈ sp_cnT, q.2.2 < 187 := by decide +kernel
theorem sp_T0_len : sp_T0.length = 187 := by decide +kernel
theorem sp_T_ok : ∀ e ∈ sp_T0, (plainName e.1.cls = true ∧ e.1.cls ≠ "java/lang/invoke/MethodHandle" ∧ e.1.cls ≠ "java/lang/invoke/VarHandle") ∧ (parseMethodDescriptor e.1.desc).map (fun d => d.parameters.length) = some e.2.2.2.2.2.2.1 ∧ e.1.cls = sp_cls e.2.2.2.2.2.1 ∧ (e.2.2.2.2.2.2.2.2.2 = 2 → e.1.name = "<init>" ∧ e.2.2.2.1 = none) := by decide +kernel
def sp_coT : List (Nat × Nat × Unit) := [(5, 1, ()), (3, 3, ()), (2, 3, ()), (4, 3, ()), (0, 3, ()), (1, 3, ()), (6, 1, ())]
set_option maxRecDepth 100000 in
theorem sp_co_in : ∀ w ∈ sp_coT.map (fun q => Cond.methodLink (sp_cls q.1) q.2.1 objectInit), w ∈ sp_AW := sp_pick _ [84, 92, 98, 116, 191, 208, 791] (by decide +kernel) (by decide +kernel)
set_option maxRecDepth 100000 in
theorem sp_ob_in : ∀ w ∈ [Cond.instanceMethod objectInit, Cond.code objectInit ⟨#[0xb1]⟩ 1 none], w ∈ sp_AW := sp_pick _ [85, 86] (by decide +kernel) (by decide +kernel)
def sp_cjT : List (Nat × Nat × Nat) := [(6, 216, 0), (6, 222, 1)]
-- throws: method, place: class of what is thrown, pool places of the class, the text, the constructor, whether the text stands by a wide index, the text
def sp_thT : List (Nat × Nat × (String × Nat × Nat × Nat × Bool × String)) := [(59, 16, "java/lang/IllegalStateException", 44, 46, 48, false, "there are 6 seamstresses"), (61, 16, "java/lang/IllegalArgumentException", 66, 68, 70, false, "work is out of range"), (61, 37, "java/lang/IllegalStateException", 44, 75, 48, false, "the pile is full, or all shirts came"), (63, 11, "java/lang/IllegalArgumentException", 66, 83, 70, false, "minutes is out of range"), (64, 22, "java/lang/IllegalArgumentException", 66, 102, 70, false, "value is out of range"), (65, 12, "java/lang/IllegalArgumentException", 66, 107, 70, false, "code is not 33 to 126"), (65, 34, "java/lang/IllegalStateException", 44, 112, 48, false, "the buffer is full"), (68, 10, "java/lang/IllegalArgumentException", 66, 127, 70, false, "the buffer is not complete orders"), (70, 7, "java/lang/IllegalStateException", 44, 145, 48, false, "there is no snapshot"), (71, 10, "java/lang/IllegalStateException", 44, 150, 48, false, "there is no saved state"), (72, 15, "java/lang/IllegalArgumentException", 66, 155, 70, false, "what is not 0 to 9"), (73, 9, "java/lang/IllegalArgumentException", 66, 160, 70, false, "place is below 0"), (74, 18, "java/lang/IndexOutOfBoundsException", 180, 182, 184, false, "there was no such shirt so far"), (74, 37, "java/lang/IllegalArgumentException", 66, 185, 70, false, "what is not 0 to 2"), (75, 10, "java/lang/IllegalArgumentException", 66, 190, 70, false, "what is not 0 to 11"), (81, 21, "java/lang/IllegalArgumentException", 66, 202, 70, false, "an argument is out of range"), (90, 11, "java/lang/IndexOutOfBoundsException", 180, 296, 184, true, "there is no such seamstress"), (91, 11, "java/lang/IllegalArgumentException", 66, 298, 70, true, "speed is out of range"), (92, 9, "java/lang/IndexOutOfBoundsException", 180, 300, 184, true, "there is no such setting")]
set_option maxRecDepth 100000 in
theorem sp_th_in : ∀ w ∈ sp_thT.map (fun q => Cond.classLink RX5 q.2.2.2.1 q.2.2.1), w ∈ sp_AW := sp_pick _ [614, 412, 614, 412, 412, 412, 614, 412, 614, 614, 412, 412, 499, 412, 412, 412, 499, 412, 499] (by decide +kernel) (by decide +kernel)
set_option maxRecDepth 100000 in
theorem sp_th_i2 : ∀ w ∈ sp_thT.map (fun q => Cond.initialized q.2.2.1), w ∈ sp_AW := sp_pick _ [75, 74, 75, 74, 74, 74, 75, 74, 75, 75, 74, 74, 76, 74, 74, 74, 76, 74, 76] (by decide +kernel) (by decide +kernel)
abbrev sp_up3 : List String := ["java/lang/RuntimeException", "java/lang/Exception"]
def sp_thK : List (Nat × String) := [(48, "java/lang/IllegalStateException"), (70, "java/lang/IllegalArgumentException"), (184, "java/lang/IndexOutOfBoundsException")]
theorem sp_th_k : ∀ q ∈ sp_thT, (q.2.2.2.2.2.1, q.2.2.1) ∈ sp_thK := by decide +kernel
def sp_nwOK : Cond → Bool
  | .fieldLinkNest _ _ _ _ _ _ => true
  | .methodLinkNest _ _ _ _ => true
  | .declares _ => true
  | .castable _ _ => true
  | _ => false
set_option maxRecDepth 100000 in
theorem sp_th_at : ∀ q ∈ sp_thK, ∀ w ∈ vx_atS RX5 q.1 q.2 sp_up3, w ∈ lw_tbl ∧ (goodWord w = true ∨ sp_nwOK w = true) ∧ vx_ot w = true := by decide +kernel
theorem sp_th_fit : ∀ q ∈ sp_thT, Bundle.fit q.2.2.1 = true := by decide +kernel
def sp_ins (y pc : Nat) : Option (Instr × Nat) := match sp_T[y]? with
  | some e => (match decode e.2.1 pc with | .ok r => some r | .error _ => none)
  | none => none
theorem sp_th_ins : ∀ q ∈ sp_thT, ∃ e, sp_T[q.1]? = some e ∧ decode e.2.1 q.2.1 = .ok (.new q.2.2.2.1, 3) ∧ decode e.2.1 (q.2.1 + 3) = .ok (.dup, 1) ∧ (if q.2.2.2.2.2.2.1 = true then decode e.2.1 (q.2.1 + 4) = .ok (.ldc_w q.2.2.2.2.1, 3) ∧ decode e.2.1 (q.2.1 + 7) = .ok (.invokespecial q.2.2.2.2.2.1, 3) ∧ decode e.2.1 (q.2.1 + 10) = .ok (.athrow, 1) else decode e.2.1 (q.2.1 + 4) = .ok (.ldc q.2.2.2.2.1, 2) ∧ decode e.2.1 (q.2.1 + 6) = .ok (.invokespecial q.2.2.2.2.2.1, 3) ∧ decode e.2.1 (q.2.1 + 9) = .ok (.athrow, 1)) ∧ e.2.2.2.2.1 = [] ∧ e.2.2.2.2.2.1 = 5 ∧ 7 ≤ e.2.2.2.2.2.2.2.1 ∧ 100 ≤ e.2.2.2.2.2.2.2.2.1 := by
  intro q hq
  have hall : sp_thT.all (fun q => match sp_T[q.1]? with | some e => decide (decode e.2.1 q.2.1 = .ok (.new q.2.2.2.1, 3) ∧ decode e.2.1 (q.2.1 + 3) = .ok (.dup, 1) ∧ (if q.2.2.2.2.2.2.1 = true then decode e.2.1 (q.2.1 + 4) = .ok (.ldc_w q.2.2.2.2.1, 3) ∧ decode e.2.1 (q.2.1 + 7) = .ok (.invokespecial q.2.2.2.2.2.1, 3) ∧ decode e.2.1 (q.2.1 + 10) = .ok (.athrow, 1) else decode e.2.1 (q.2.1 + 4) = .ok (.ldc q.2.2.2.2.1, 2) ∧ decode e.2.1 (q.2.1 + 6) = .ok (.invokespecial q.2.2.2.2.2.1, 3) ∧ decode e.2.1 (q.2.1 + 9) = .ok (.athrow, 1)) ∧ e.2.2.2.2.1 = [] ∧ e.2.2.2.2.2.1 = 5 ∧ 7 ≤ e.2.2.2.2.2.2.2.1 ∧ 100 ≤ e.2.2.2.2.2.2.2.2.1) | none => false) = true := by decide +kernel
  have h := List.all_eq_true.mp hall q hq
  split at h
  · rename_i e he
    exact ⟨e, he, of_decide_eq_true h⟩
  · cases h
-- classes of the pool: words, fields
theorem sp_lay0 : ∀ w ∈ wsX00, w ∈ sp_AW := sp_pick _ [198, 200] (by decide +kernel) (by decide +kernel)
theorem sp_lay1 : ∀ w ∈ wsX10, w ∈ sp_AW := sp_pick _ [212, 214] (by decide +kernel) (by decide +kernel)
theorem sp_lay2 : ∀ w ∈ wsX20, w ∈ sp_AW := sp_pick _ [104, 106] (by decide +kernel) (by decide +kernel)
theorem sp_lay3 : ∀ w ∈ wsX30, w ∈ sp_AW := sp_pick _ [155, 157, 159, 161, 163, 165, 167, 169, 171, 173, 175, 177, 179, 181, 183] (by decide +kernel) (by decide +kernel)
theorem sp_lay4 : ∀ w ∈ wsX40, w ∈ sp_AW := sp_pick _ [123, 125, 127, 129] (by decide +kernel) (by decide +kernel)
theorem sp_lay5 : ∀ w ∈ wsX50, w ∈ sp_AW := sp_pick _ [224, 226, 228, 230, 232, 234] (by decide +kernel) (by decide +kernel)
theorem sp_lay6 : ∀ w ∈ wsX60, w ∈ sp_AW := sp_pick _ [811, 813, 815, 817, 819, 821, 823, 825, 827, 829, 831, 833, 835, 837, 839] (by decide +kernel) (by decide +kernel)
end
section
/-! ===== an abstract machine: one function that runs a method's bytecode over cells that are plain values; every row of the proofs behind the next part speaks of it alone ===== -/
abbrev sp_H : Type := Nat → Option va_E
abbrev sp_M : Type := Option Nat × Nat × Nat × sp_H
abbrev sp_L : Type := List (Option Value)
abbrev sp_R : Type := Option Value ⊕ String
abbrev sp_G : Type := Nat × Nat × (Nat → Int32) × Nat × Nat
def sp_up (h : sp_H) (a : Nat) (e : va_E) : sp_H := fun q => if q = a then some e else h q
def sp_fd {α : Type} (T : List (Nat × Nat × α)) (c i : Nat) : Option α := (T.find? (fun q => q.1 == c && q.2.1 == i)).map (fun q => q.2.2)
theorem sp_fd_mem {α : Type} {T : List (Nat × Nat × α)} {c i : Nat} {x : α} (h : sp_fd T c i = some x) : (c, i, x) ∈ T := by
  unfold sp_fd at h
  obtain ⟨⟨a, b, y⟩, h1, h2⟩ := Option.map_eq_some_iff.mp h
  have h3 := List.find?_some h1
  have h4 := List.mem_of_find?_eq_some h1
  simp only [Bool.and_eq_true, beq_iff_eq] at h3
  obtain ⟨rfl, rfl⟩ := h3
  have h5 : y = x := h2
  subst h5
  exact h4
-- locals
def sp_ld (L : sp_L) (k : Nat) : Option Value := (L[k]?).join
theorem sp_ld_iff {L : sp_L} {k : Nat} {v : Value} : sp_ld L k = some v ↔ L[k]? = some (some v) := by
  unfold sp_ld
  cases h : L[k]? with
  | none => simp
  | some o => simp
def sp_fix (L : sp_L) (i : Nat) : sp_L := match i with
  | 0 => L
  | j + 1 => match sp_ld L j with
    | some w => if w.category = 2 then L.set j none else L
    | none => L
def sp_s1 (L : sp_L) (i : Nat) (v : Value) : Option sp_L := if i < L.length then some ((sp_fix L i).set i (some v)) else none
def sp_s2 (L : sp_L) (i : Nat) (v : Value) : Option sp_L := if i + 1 < L.length then some (((sp_fix L i).set (i + 1) none).set i (some v)) else none
theorem sp_fix_len (L : sp_L) (i : Nat) : (sp_fix L i).length = L.length := by
  unfold sp_fix
  split
  · rfl
  · split
    · split <;> simp
    · rfl
theorem sp_fix_ld {L : sp_L} {i j : Nat} {w : Value} (hj : j ≠ i) (h : sp_ld (sp_fix L i) j = some w) : sp_ld L j = some w ∧ ¬ (j + 1 = i ∧ w.category = 2) := by
  unfold sp_fix at h
  split at h
  · exact ⟨h, fun q => by omega⟩
  · rename_i k
    split at h
    · rename_i v hv
      split at h
      · rename_i hc
        rw [sp_ld_iff, List.getElem?_set] at h
        split at h
        · split at h <;> simp at h
        · rename_i hne
          exact ⟨sp_ld_iff.mpr h, fun q => by omega⟩
      · rename_i hc
        refine ⟨h, fun q => ?_⟩
        obtain ⟨q1, q2⟩ := q
        have : j = k := by omega
        subst this
        rw [h] at hv
        cases hv
        exact hc q2
    · rename_i hn
      refine ⟨h, fun q => ?_⟩
      have : j = k := by omega
      subst this
      rw [h] at hn
      cases hn
theorem sp_s1_ld {L L' : sp_L} {i j : Nat} {v w : Value} (h : sp_s1 L i v = some L') (hw : sp_ld L' j = some w) : (j = i ∧ w = v) ∨ (j ≠ i ∧ sp_ld L j = some w ∧ ¬ (j + 1 = i ∧ w.category = 2)) := by
  unfold sp_s1 at h
  split at h
  · cases h
    by_cases hj : j = i
    · subst hj
      rw [sp_ld_iff, List.getElem?_set_self' ] at hw
      left
      refine ⟨rfl, ?_⟩
      cases hx : (sp_fix L j)[j]? with
      | none => rw [hx] at hw; simp at hw
      | some o => rw [hx] at hw; simp at hw; exact hw.symm
    · right
      rw [sp_ld_iff, List.getElem?_set_ne (Ne.symm hj)] at hw
      obtain ⟨h1, h2⟩ := sp_fix_ld hj (sp_ld_iff.mpr hw)
      exact ⟨hj, h1, h2⟩
  · cases h
theorem sp_s2_ld {L L' : sp_L} {i j : Nat} {v w : Value} (h : sp_s2 L i v = some L') (hw : sp_ld L' j = some w) : (j = i ∧ w = v) ∨ (j ≠ i ∧ j ≠ i + 1 ∧ sp_ld L j = some w ∧ ¬ (j + 1 = i ∧ w.category = 2)) := by
  unfold sp_s2 at h
  split at h
  · cases h
    by_cases hj : j = i
    · subst hj
      rw [sp_ld_iff, List.getElem?_set_self'] at hw
      left
      refine ⟨rfl, ?_⟩
      cases hx : ((sp_fix L j).set (j + 1) none)[j]? with
      | none => rw [hx] at hw; simp at hw
      | some o => rw [hx] at hw; simp at hw; exact hw.symm
    · right
      rw [sp_ld_iff, List.getElem?_set_ne (Ne.symm hj)] at hw
      by_cases hj2 : j = i + 1
      · subst hj2
        rw [List.getElem?_set_self'] at hw
        cases hx : (sp_fix L i)[i + 1]? with
        | none => rw [hx] at hw; simp at hw
        | some o => rw [hx] at hw; simp at hw
      · rw [List.getElem?_set_ne (Ne.symm hj2)] at hw
        obtain ⟨h1, h2⟩ := sp_fix_ld hj (sp_ld_iff.mpr hw)
        exact ⟨hj, hj2, h1, h2⟩
  · cases h
theorem sp_s1_len {L L' : sp_L} {i : Nat} {v : Value} (h : sp_s1 L i v = some L') : i < L.length ∧ L'.length = L.length := by
  unfold sp_s1 at h
  split at h
  · cases h
    exact ⟨by assumption, by rw [List.length_set, sp_fix_len]⟩
  · cases h
theorem sp_s2_len {L L' : sp_L} {i : Nat} {v : Value} (h : sp_s2 L i v = some L') : i + 1 < L.length ∧ L'.length = L.length := by
  unfold sp_s2 at h
  split at h
  · cases h
    exact ⟨by assumption, by rw [List.length_set, List.length_set, sp_fix_len]⟩
  · cases h
/-- the frame's locals hold what the list says -/
def sp_lr (ls : Array Slot) (nL : Nat) (L : sp_L) : Prop := ls.size = nL ∧ lv_wf ls ∧ L.length = nL ∧ ∀ (i : Nat) (v : Value), sp_ld L i = some v → ls[i]? = some (.val v)
theorem sp_lr_at {ls : Array Slot} {nL : Nat} {L : sp_L} (h : sp_lr ls nL L) {i : Nat} {v : Value} (hv : sp_ld L i = some v) : ls[i]? = some (.val v) := h.2.2.2 i v hv
def sp_prs (L : sp_L) : List (Nat × Value) := (List.range L.length).filterMap (fun i => (sp_ld L i).map (fun v => (i, v)))
theorem sp_prs_mem {L : sp_L} {i : Nat} {v : Value} : (i, v) ∈ sp_prs L ↔ sp_ld L i = some v := by
  unfold sp_prs
  rw [List.mem_filterMap]
  constructor
  · rintro ⟨j, -, hj⟩
    obtain ⟨w, h1, h2⟩ := Option.map_eq_some_iff.mp hj
    cases h2
    exact h1
  · intro h
    have hi : i < L.length := by
      have := sp_ld_iff.mp h
      exact (List.getElem?_eq_some_iff.mp this).1
    exact ⟨i, List.mem_range.mpr hi, by rw [h]; rfl⟩
theorem sp_lr_has {ls : Array Slot} {nL : Nat} {L : sp_L} (h : sp_lr ls nL L) : lv_has ls nL (sp_prs L) := ⟨h.1, h.2.1, fun q hq => h.2.2.2 q.1 q.2 (sp_prs_mem.mp hq)⟩
theorem sp_lr_s1 {ls' : Array Slot} {nL i : Nat} {L L' : sp_L} {v : Value} {lv : List (Nat × Value)} (hn : L.length = nL) (hlv : ∀ (j : Nat) (w : Value), sp_ld L j = some w → (j, w) ∈ lv) (hs : sp_s1 L i v = some L')
    (h : lv_has ls' nL ((i, v) :: lv.filter (fun q => !(q.1 == i) && !(q.1 + 1 == i && q.2.category == 2)))) : sp_lr ls' nL L' := by
  refine ⟨h.1, h.2.1, (sp_s1_len hs).2.trans hn, fun j w hw => ?_⟩
  rcases sp_s1_ld hs hw with ⟨rfl, rfl⟩ | ⟨h1, h2, h3⟩
  · exact h.2.2 _ List.mem_cons_self
  · refine h.2.2 (j, w) (List.mem_cons_of_mem _ (List.mem_filter.mpr ⟨hlv j w h2, ?_⟩))
    have : (j == i) = false := by simpa using h1
    simp only [this, Bool.not_false, Bool.true_and, Bool.not_eq_true', Bool.and_eq_false_imp, beq_iff_eq]
    intro q
    simp only [beq_eq_false_iff_ne, ne_eq]
    exact fun q2 => h3 ⟨q, q2⟩
theorem sp_lr_s2 {ls' : Array Slot} {nL i : Nat} {L L' : sp_L} {v : Value} {lv : List (Nat × Value)} (hn : L.length = nL) (hlv : ∀ (j : Nat) (w : Value), sp_ld L j = some w → (j, w) ∈ lv) (hs : sp_s2 L i v = some L')
    (h : lv_has ls' nL ((i, v) :: lv.filter (fun q => !(q.1 == i) && (!(q.1 == i + 1) && !(q.1 + 1 == i && q.2.category == 2))))) : sp_lr ls' nL L' := by
  refine ⟨h.1, h.2.1, (sp_s2_len hs).2.trans hn, fun j w hw => ?_⟩
  rcases sp_s2_ld hs hw with ⟨rfl, rfl⟩ | ⟨h1, h1', h2, h3⟩
  · exact h.2.2 _ List.mem_cons_self
  · refine h.2.2 (j, w) (List.mem_cons_of_mem _ (List.mem_filter.mpr ⟨hlv j w h2, ?_⟩))
    have e1 : (j == i) = false := by simpa using h1
    have e2 : (j == i + 1) = false := by simpa using h1'
    simp only [e1, e2, Bool.not_false, Bool.true_and, Bool.not_eq_true', Bool.and_eq_false_imp, beq_iff_eq]
    intro q
    simp only [beq_eq_false_iff_ne, ne_eq]
    exact fun q2 => h3 ⟨q, q2⟩
-- a method's arguments in its locals
def sp_ea : List Value → sp_L
  | [] => []
  | v :: vs => if v.category = 2 then some v :: none :: sp_ea vs else some v :: sp_ea vs
def sp_ent (n : Nat) (vs : List Value) : sp_L := sp_ea vs ++ List.replicate (n - (sp_ea vs).length) none
theorem sp_ea_len (vs : List Value) : (sp_ea vs).length = (lg_sl vs).length := by
  induction vs with
  | nil => rfl
  | cons v vs ih =>
    have e : lg_sl (v :: vs) = (if v.category = 2 then [Slot.val v, .second] else [Slot.val v]) ++ lg_sl vs := by simp [lg_sl]
    rw [e]
    unfold sp_ea
    by_cases h : v.category = 2
    · rw [if_pos h, if_pos h]; simp [ih]
    · rw [if_neg h, if_neg h]; simp [ih]
theorem sp_ea_ld (vs : List Value) (rest : List Slot) : ∀ (i : Nat) (v : Value), (sp_ea vs)[i]? = some (some v) → (lg_sl vs ++ rest)[i]? = some (.val v) := by
  induction vs with
  | nil => intro i v h; simp [sp_ea] at h
  | cons w vs ih =>
    intro i v h
    have e : lg_sl (w :: vs) = (if w.category = 2 then [Slot.val w, .second] else [Slot.val w]) ++ lg_sl vs := by simp [lg_sl]
    rw [e]
    unfold sp_ea at h
    by_cases hc : w.category = 2
    · rw [if_pos hc] at h ⊢
      match i, h with
      | 0, h => simp at h; subst h; rfl
      | 1, h => simp at h
      | i + 2, h => simp at h; simpa using ih i v h
    · rw [if_neg hc] at h ⊢
      match i, h with
      | 0, h => simp at h; subst h; rfl
      | i + 1, h => simp at h; simpa using ih i v h
theorem sp_ent_lr {n : Nat} {vs : List Value} (h : (sp_ea vs).length ≤ n) : sp_lr ((lg_sl vs ++ List.replicate (n - (lg_sl vs).length) Slot.unset).toArray) n (sp_ent n vs) := by
  have h0 : (lg_sl vs).length ≤ n := by rw [← sp_ea_len]; exact h
  obtain ⟨h1, h2, -⟩ := lv_entry vs h0
  refine ⟨h1, h2, by simp [sp_ent]; omega, fun i v hv => ?_⟩
  rw [sp_ld_iff] at hv
  unfold sp_ent at hv
  by_cases hi : i < (sp_ea vs).length
  · rw [List.getElem?_append_left hi] at hv
    simpa using sp_ea_ld vs _ i v hv
  · rw [List.getElem?_append_right (by omega), List.getElem?_replicate] at hv
    split at hv <;> simp at hv
-- what touches neither cells nor the place
def sp_fc (n : Fin 3) : UInt32 := if n = 0 then FP.fconst0 else if n = 1 then FP.fconst1 else FP.fconst2
def sp_dc (n : Fin 2) : UInt64 := if n = 0 then FP.dconst0 else FP.dconst1
def sp_ok32 (r : UInt32) : Bool := decide (r &&& 0x7fffffff ≤ 0x7f800000)
def sp_ok64 (r : UInt64) : Bool := decide (r &&& 0x7fffffffffffffff ≤ 0x7ff0000000000000)
def sp_pu (L : sp_L) (v : Option Value) (st : List Value) : Option (sp_L × List Value) := v.map (fun v => (L, v :: st))
def sp_ldi (L : sp_L) (k : Nat) : Option Value := match sp_ld L k with | some (.int x) => some (.int x) | _ => none
def sp_ldl (L : sp_L) (k : Nat) : Option Value := match sp_ld L k with | some (.long x) => some (.long x) | _ => none
def sp_ldf (L : sp_L) (k : Nat) : Option Value := match sp_ld L k with | some (.float x) => some (.float x) | _ => none
def sp_ldd (L : sp_L) (k : Nat) : Option Value := match sp_ld L k with | some (.double x) => some (.double x) | _ => none
def sp_lda (L : sp_L) (k : Nat) : Option Value := match sp_ld L k with | some (.ref x) => some (.ref x) | _ => none
/-- loads and stores of locals -/
def sp_loc (i : Instr) (len : Nat) (L : sp_L) (st : List Value) : Option (sp_L × List Value) := match i, len, st with
  | .iload k, 2, st => sp_pu L (sp_ldi L k) st
  | .iload_n k, 1, st => sp_pu L (sp_ldi L k) st
  | .lload k, 2, st => sp_pu L (sp_ldl L k) st
  | .lload_n k, 1, st => sp_pu L (sp_ldl L k) st
  | .fload k, 2, st => sp_pu L (sp_ldf L k) st
  | .fload_n k, 1, st => sp_pu L (sp_ldf L k) st
  | .dload k, 2, st => sp_pu L (sp_ldd L k) st
  | .dload_n k, 1, st => sp_pu L (sp_ldd L k) st
  | .aload k, 2, st => sp_pu L (sp_lda L k) st
  | .aload_n k, 1, st => sp_pu L (sp_lda L k) st
  | .istore k, 2, .int x :: st => (sp_s1 L k (.int x)).map (fun l => (l, st))
  | .istore_n k, 1, .int x :: st => (sp_s1 L k (.int x)).map (fun l => (l, st))
  | .lstore k, 2, .long x :: st => (sp_s2 L k (.long x)).map (fun l => (l, st))
  | .lstore_n k, 1, .long x :: st => (sp_s2 L k (.long x)).map (fun l => (l, st))
  | .fstore k, 2, .float x :: st => (sp_s1 L k (.float x)).map (fun l => (l, st))
  | .fstore_n k, 1, .float x :: st => (sp_s1 L k (.float x)).map (fun l => (l, st))
  | .dstore k, 2, .double x :: st => (sp_s2 L k (.double x)).map (fun l => (l, st))
  | .dstore_n k, 1, .double x :: st => (sp_s2 L k (.double x)).map (fun l => (l, st))
  | .astore k, 2, .ref x :: st => (sp_s1 L k (.ref x)).map (fun l => (l, st))
  | .astore_n k, 1, .ref x :: st => (sp_s1 L k (.ref x)).map (fun l => (l, st))
  | .iinc k n, 3, st => match sp_ld L k with
    | some (.int x) => (sp_s1 L k (.int (x + Int32.ofInt n))).map (fun l => (l, st))
    | _ => none
  | _, _, _ => none
/-- constants and what works on the stack alone -/
def sp_stk (i : Instr) (len : Nat) (st : List Value) : Option (List Value) := match i, len, st with
  | .iconst n, 1, st => some (.int (Int32.ofInt n) :: st)
  | .bipush n, 2, st => some (.int (Int8.ofInt n).toInt32 :: st)
  | .sipush n, 3, st => some (.int (Int16.ofInt n).toInt32 :: st)
  | .lconst n, 1, st => some (.long (Int64.ofNat (n : Nat)) :: st)
  | .fconst n, 1, st => some (.float (sp_fc n) :: st)
  | .dconst n, 1, st => some (.double (sp_dc n) :: st)
  | .iadd, 1, .int y :: .int x :: st => some (.int (x + y) :: st)
  | .isub, 1, .int y :: .int x :: st => some (.int (x - y) :: st)
  | .imul, 1, .int y :: .int x :: st => some (.int (x * y) :: st)
  | .iand, 1, .int y :: .int x :: st => some (.int (x &&& y) :: st)
  | .ishl, 1, .int y :: .int x :: st => some (.int (x <<< (y &&& 31)) :: st)
  | .idiv, 1, .int y :: .int x :: st => if y = 0 then none else some (.int (x / y) :: st)
  | .irem, 1, .int y :: .int x :: st => if y = 0 then none else some (.int (x - x / y * y) :: st)
  | .ladd, 1, .long y :: .long x :: st => some (.long (x + y) :: st)
  | .lmul, 1, .long y :: .long x :: st => some (.long (x * y) :: st)
  | .lshl, 1, .int y :: .long x :: st => some (.long (x <<< (y.toInt64 &&& 63)) :: st)
  | .lcmp, 1, .long y :: .long x :: st => some (.int (lg_cmp x y) :: st)
  | .i2l, 1, .int x :: st => some (.long x.toInt64 :: st)
  | .i2f, 1, .int x :: st => some (.float (FP.i2f x) :: st)
  | .i2d, 1, .int x :: st => some (.double (FP.i2d x) :: st)
  | .i2c, 1, .int x :: st => some (.int (x.toUInt32 % 65536).toInt32 :: st)
  | .f2i, 1, .float x :: st => some (.int (FP.f2i x) :: st)
  | .d2l, 1, .double x :: st => some (.long (FP.d2l x) :: st)
  | .f2d, 1, .float x :: st => if sp_ok64 (FP.f2d x) then some (.double (FP.f2d x) :: st) else none
  | .fmul, 1, .float y :: .float x :: st => if sp_ok32 (FP.fmul x y) then some (.float (FP.fmul x y) :: st) else none
  | .fsub, 1, .float y :: .float x :: st => if sp_ok32 (FP.fsub x y) then some (.float (FP.fsub x y) :: st) else none
  | .fdiv, 1, .float y :: .float x :: st => if sp_ok32 (FP.fdiv x y) then some (.float (FP.fdiv x y) :: st) else none
  | .dmul, 1, .double y :: .double x :: st => if sp_ok64 (FP.dmul x y) then some (.double (FP.dmul x y) :: st) else none
  | .dsub, 1, .double y :: .double x :: st => if sp_ok64 (FP.dsub x y) then some (.double (FP.dsub x y) :: st) else none
  | .ddiv, 1, .double y :: .double x :: st => if sp_ok64 (FP.ddiv x y) then some (.double (FP.ddiv x y) :: st) else none
  | .fcmp op, 1, .float y :: .float x :: st => some (.int (Op.cmpValue (FP.fcmp x y) op) :: st)
  | .dcmp op, 1, .double y :: .double x :: st => some (.int (Op.cmpValue (FP.dcmp x y) op) :: st)
  | .dup, 1, v :: st => if v.category = 1 then some (v :: v :: st) else none
  | .pop, 1, v :: st => if v.category = 1 then some st else none
  | .dup2, 1, a :: b :: st => if a.category = 1 ∧ b.category = 1 then some (a :: b :: a :: b :: st) else none
  | _, _, _ => none
def sp_tg (pc : Nat) (off : Int) : Option Nat := if 0 ≤ (pc : Int) + off then some ((pc : Int) + off).toNat else none
def sp_br (c : Bool) (pc : Nat) (off : Int) (st : List Value) : Option (Nat × List Value) := (sp_tg pc off).map (fun t => (if c then t else pc + 3, st))
/-- jumps: the next place and the stack -/
def sp_jmp (i : Instr) (len pc : Nat) (st : List Value) : Option (Nat × List Value) := match i, len, st with
  | .goto off, 3, st => (sp_tg pc off).map (fun t => (t, st))
  | .ifCond .eq off, 3, .int x :: st => sp_br (decide (x = 0)) pc off st
  | .ifCond .ne off, 3, .int x :: st => sp_br (decide (¬ x = 0)) pc off st
  | .ifCond .lt off, 3, .int x :: st => sp_br (decide (x < 0)) pc off st
  | .ifCond .ge off, 3, .int x :: st => sp_br (decide (0 ≤ x)) pc off st
  | .ifCond .gt off, 3, .int x :: st => sp_br (decide (0 < x)) pc off st
  | .ifCond .le off, 3, .int x :: st => sp_br (decide (x ≤ 0)) pc off st
  | .if_icmp .eq off, 3, .int y :: .int x :: st => sp_br (decide (x = y)) pc off st
  | .if_icmp .ne off, 3, .int y :: .int x :: st => sp_br (decide (¬ x = y)) pc off st
  | .if_icmp .lt off, 3, .int y :: .int x :: st => sp_br (decide (x < y)) pc off st
  | .if_icmp .ge off, 3, .int y :: .int x :: st => sp_br (decide (y ≤ x)) pc off st
  | .if_icmp .gt off, 3, .int y :: .int x :: st => sp_br (decide (y < x)) pc off st
  | .if_icmp .le off, 3, .int y :: .int x :: st => sp_br (decide (x ≤ y)) pc off st
  | .ifnull _, 3, .ref _ :: st => some (pc + 3, st)
  | .tableswitch dflt lo hi offs, _, .int x :: st => if x.toInt < lo ∨ hi < x.toInt then (sp_tg pc dflt).map (fun t => (t, st)) else (offs[(x.toInt - lo).toNat]?).bind (fun off => (sp_tg pc off).map (fun t => (t, st)))
  | .lookupswitch dflt ps, _, .int x :: st => if (ps.toList.zip (ps.toList.drop 1)).all (fun (a, next) => a.1 < next.1) = true then (sp_tg pc (Op.lookupswitch.offset ps.toList dflt x.toInt)).map (fun t => (t, st)) else none
  | _, _, _ => none
end
section
/-! ===== the abstract machine's rows that touch no cell: each is the machine's own ===== -/
section SPA
variable {p : Program} {l : Launch} {e : Env} {R : Room} {s : State} {m : MethodId} {args : Array Value} {below : List Frame} {meth : Method} {c : Code} {H : Heap} {locs : List Loc} {cells slots : Nat} {Q : State → Prop}
variable {cc : ByteArray} {pc len nL : Nat} {ls : Array Slot} {st st' : List Value} {i : Instr} {L L' : sp_L}
theorem sp_ok32_of {r : UInt32} (h : sp_ok32 r = true) : vf_n32 r := by unfold sp_ok32 at h; unfold vf_n32; exact of_decide_eq_true h
theorem sp_ok64_of {r : UInt64} (h : sp_ok64 r = true) : vf_n64 r := by unfold sp_ok64 at h; unfold vf_n64; exact of_decide_eq_true h
theorem sp_pu_of {v : Option Value} (h : sp_pu L v st = some (L', st')) : ∃ w, v = some w ∧ L' = L ∧ st' = w :: st := by
  cases v with
  | none => cases h
  | some w => cases h; exact ⟨w, rfl, rfl, rfl⟩
theorem sp_ldi_of {k : Nat} {w : Value} (h : sp_ldi L k = some w) : ∃ x, w = .int x ∧ sp_ld L k = some (.int x) := by
  unfold sp_ldi at h
  split at h
  · rename_i x hx; cases h; exact ⟨x, rfl, hx⟩
  · cases h
theorem sp_ldl_of {k : Nat} {w : Value} (h : sp_ldl L k = some w) : ∃ x, w = .long x ∧ sp_ld L k = some (.long x) := by
  unfold sp_ldl at h
  split at h
  · rename_i x hx; cases h; exact ⟨x, rfl, hx⟩
  · cases h
theorem sp_ldf_of {k : Nat} {w : Value} (h : sp_ldf L k = some w) : ∃ x, w = .float x ∧ sp_ld L k = some (.float x) := by
  unfold sp_ldf at h
  split at h
  · rename_i x hx; cases h; exact ⟨x, rfl, hx⟩
  · cases h
theorem sp_ldd_of {k : Nat} {w : Value} (h : sp_ldd L k = some w) : ∃ x, w = .double x ∧ sp_ld L k = some (.double x) := by
  unfold sp_ldd at h
  split at h
  · rename_i x hx; cases h; exact ⟨x, rfl, hx⟩
  · cases h
theorem sp_lda_of {k : Nat} {w : Value} (h : sp_lda L k = some w) : ∃ x, w = .ref x ∧ sp_ld L k = some (.ref x) := by
  unfold sp_lda at h
  split at h
  · rename_i x hx; cases h; exact ⟨x, rfl, hx⟩
  · cases h
theorem sp_st_of {o : Option sp_L} (h : o.map (fun l => (l, st)) = some (L', st')) : o = some L' ∧ st' = st := by
  obtain ⟨w, h1, h2⟩ := Option.map_eq_some_iff.mp h
  cases h2
  exact ⟨h1, rfl⟩
set_option maxHeartbeats 1000000 in
theorem sp_loc_sound (hx : p.tables.exec = Jvm.exec) (hb : c.code = cc) (hdg : decode cc pc = .ok (i, len)) (h : sp_loc i len L st = some (L', st')) (hl : sp_lr ls nL L)
    (k : ∀ ls', sp_lr ls' nL L' → W p l e R s m args below meth c H locs cells slots Q (F0 m (pc + len) ls' st')) : W p l e R s m args below meth c H locs cells slots Q (F0 m pc ls st) := by
  have hpr : ∀ (j : Nat) (w : Value), sp_ld L j = some w → (j, w) ∈ sp_prs L := fun j w hw => sp_prs_mem.mpr hw
  unfold sp_loc at h
  split at h
  · obtain ⟨w, h1, rfl, rfl⟩ := sp_pu_of h
    obtain ⟨x, rfl, h2⟩ := sp_ldi_of h1
    exact lv_iload hx hb hdg (sp_lr_at hl h2) (k _ hl)
  · obtain ⟨w, h1, rfl, rfl⟩ := sp_pu_of h
    obtain ⟨x, rfl, h2⟩ := sp_ldi_of h1
    exact lv_iload_n hx hb hdg rfl (sp_lr_at hl h2) (k _ hl)
  · obtain ⟨w, h1, rfl, rfl⟩ := sp_pu_of h
    obtain ⟨x, rfl, h2⟩ := sp_ldl_of h1
    exact lv_lload hx hb hdg (sp_lr_at hl h2) (k _ hl)
  · obtain ⟨w, h1, rfl, rfl⟩ := sp_pu_of h
    obtain ⟨x, rfl, h2⟩ := sp_ldl_of h1
    exact lv_lload_n hx hb hdg rfl (sp_lr_at hl h2) (k _ hl)
  · obtain ⟨w, h1, rfl, rfl⟩ := sp_pu_of h
    obtain ⟨x, rfl, h2⟩ := sp_ldf_of h1
    exact lv_fload hx hb hdg (sp_lr_at hl h2) (k _ hl)
  · obtain ⟨w, h1, rfl, rfl⟩ := sp_pu_of h
    obtain ⟨x, rfl, h2⟩ := sp_ldf_of h1
    exact lv_fload_n hx hb hdg rfl (sp_lr_at hl h2) (k _ hl)
  · obtain ⟨w, h1, rfl, rfl⟩ := sp_pu_of h
    obtain ⟨x, rfl, h2⟩ := sp_ldd_of h1
    exact lv_dload hx hb hdg (sp_lr_at hl h2) (k _ hl)
  · obtain ⟨w, h1, rfl, rfl⟩ := sp_pu_of h
    obtain ⟨x, rfl, h2⟩ := sp_ldd_of h1
    exact lv_dload_n hx hb hdg rfl (sp_lr_at hl h2) (k _ hl)
  · obtain ⟨w, h1, rfl, rfl⟩ := sp_pu_of h
    obtain ⟨x, rfl, h2⟩ := sp_lda_of h1
    exact lv_aload hx hb hdg (sp_lr_at hl h2) (k _ hl)
  · obtain ⟨w, h1, rfl, rfl⟩ := sp_pu_of h
    obtain ⟨x, rfl, h2⟩ := sp_lda_of h1
    exact lv_aload_n hx hb hdg rfl (sp_lr_at hl h2) (k _ hl)
  · obtain ⟨h1, rfl⟩ := sp_st_of h
    exact lv_istore hx hb hdg (sp_lr_has hl) (hl.2.2.1 ▸ (sp_s1_len h1).1) rfl (fun ls' h' => k ls' (sp_lr_s1 hl.2.2.1 hpr h1 h'))
  · obtain ⟨h1, rfl⟩ := sp_st_of h
    exact lv_istore_n hx hb hdg rfl (sp_lr_has hl) (hl.2.2.1 ▸ (sp_s1_len h1).1) rfl (fun ls' h' => k ls' (sp_lr_s1 hl.2.2.1 hpr h1 h'))
  · obtain ⟨h1, rfl⟩ := sp_st_of h
    exact lv_lstore hx hb hdg (sp_lr_has hl) (hl.2.2.1 ▸ (sp_s2_len h1).1) rfl (fun ls' h' => k ls' (sp_lr_s2 hl.2.2.1 hpr h1 h'))
  · obtain ⟨h1, rfl⟩ := sp_st_of h
    exact lv_lstore_n hx hb hdg rfl (sp_lr_has hl) (hl.2.2.1 ▸ (sp_s2_len h1).1) rfl (fun ls' h' => k ls' (sp_lr_s2 hl.2.2.1 hpr h1 h'))
  · obtain ⟨h1, rfl⟩ := sp_st_of h
    exact lv_fstore hx hb hdg (sp_lr_has hl) (hl.2.2.1 ▸ (sp_s1_len h1).1) rfl (fun ls' h' => k ls' (sp_lr_s1 hl.2.2.1 hpr h1 h'))
  · obtain ⟨h1, rfl⟩ := sp_st_of h
    exact lv_fstore_n hx hb hdg rfl (sp_lr_has hl) (hl.2.2.1 ▸ (sp_s1_len h1).1) rfl (fun ls' h' => k ls' (sp_lr_s1 hl.2.2.1 hpr h1 h'))
  · obtain ⟨h1, rfl⟩ := sp_st_of h
    exact lv_dstore hx hb hdg (sp_lr_has hl) (hl.2.2.1 ▸ (sp_s2_len h1).1) rfl (fun ls' h' => k ls' (sp_lr_s2 hl.2.2.1 hpr h1 h'))
  · obtain ⟨h1, rfl⟩ := sp_st_of h
    exact lv_dstore_n hx hb hdg rfl (sp_lr_has hl) (hl.2.2.1 ▸ (sp_s2_len h1).1) rfl (fun ls' h' => k ls' (sp_lr_s2 hl.2.2.1 hpr h1 h'))
  · obtain ⟨h1, rfl⟩ := sp_st_of h
    exact lv_astore hx hb hdg (sp_lr_has hl) (hl.2.2.1 ▸ (sp_s1_len h1).1) rfl (fun ls' h' => k ls' (sp_lr_s1 hl.2.2.1 hpr h1 h'))
  · obtain ⟨h1, rfl⟩ := sp_st_of h
    exact lv_astore_n hx hb hdg rfl (sp_lr_has hl) (hl.2.2.1 ▸ (sp_s1_len h1).1) rfl (fun ls' h' => k ls' (sp_lr_s1 hl.2.2.1 hpr h1 h'))
  · split at h
    · rename_i x hxx
      obtain ⟨h1, rfl⟩ := sp_st_of h
      have hh : lv_has ls nL ((_, .int x) :: sp_prs L) := ⟨hl.1, hl.2.1, fun q hq => by
        rcases List.mem_cons.mp hq with rfl | hq
        · exact sp_lr_at hl hxx
        · exact (sp_lr_has hl).2.2 q hq⟩
      exact lv_iinc (k := 0) hx hb hdg hh rfl rfl (hl.2.2.1 ▸ (sp_s1_len h1).1) rfl (fun ls' h' => k ls' (sp_lr_s1 hl.2.2.1 (fun j w hw => List.mem_cons_of_mem _ (hpr j w hw)) h1 h'))
    · cases h
  · cases h
set_option maxHeartbeats 1000000 in
theorem sp_stk_sound (hx : p.tables.exec = Jvm.exec) (hb : c.code = cc) (hdg : decode cc pc = .ok (i, len)) (h : sp_stk i len st = some st')
    (k : W p l e R s m args below meth c H locs cells slots Q (F0 m (pc + len) ls st')) : W p l e R s m args below meth c H locs cells slots Q (F0 m pc ls st) := by
  unfold sp_stk at h
  split at h
  · cases h; exact lv_iconst hx hb hdg rfl k
  · cases h; exact lv_bipush hx hb hdg rfl k
  · cases h; exact lv_sipush hx hb hdg rfl k
  · cases h; exact lv_lconst hx hb hdg rfl k
  · rename_i n
    cases h
    match n, hdg, k with
    | 0, hdg, k => exact lv_fconst0 hx hb hdg k
    | 1, hdg, k => exact lv_fconst1 hx hb hdg k
    | 2, hdg, k => exact lv_fconst2 hx hb hdg k
  · rename_i n
    cases h
    match n, hdg, k with
    | 0, hdg, k => exact lv_dconst0 hx hb hdg k
    | 1, hdg, k => exact lv_dconst1 hx hb hdg k
  · cases h; exact lv_iadd hx hb hdg k
  · cases h; exact lv_isub hx hb hdg k
  · cases h; exact lv_imul hx hb hdg k
  · cases h; exact lv_iand hx hb hdg k
  · cases h; exact lv_ishl hx hb hdg k
  · split at h
    · cases h
    · rename_i hne; cases h; exact lv_idiv hx hb hdg hne k
  · split at h
    · cases h
    · rename_i hne; cases h; exact lv_irem hx hb hdg hne k
  · cases h; exact lv_ladd hx hb hdg k
  · cases h; exact lv_lmul hx hb hdg k
  · cases h; exact lv_lshl hx hb hdg rfl k
  · cases h; exact W.lcmp hx hb hdg k
  · cases h; exact lv_i2l hx hb hdg rfl k
  · cases h; exact lv_i2f hx hb hdg k
  · cases h; exact lv_i2d hx hb hdg k
  · cases h; exact lv_i2c hx hb hdg rfl k
  · cases h; exact lv_f2i hx hb hdg k
  · cases h; exact lv_d2l hx hb hdg k
  · split at h
    · rename_i hne; cases h; exact lv_f2d hx hb hdg (sp_ok64_of hne) k
    · cases h
  · split at h
    · rename_i hne; cases h; exact lv_fmul hx hb hdg (sp_ok32_of hne) k
    · cases h
  · split at h
    · rename_i hne; cases h; exact lv_fsub hx hb hdg (sp_ok32_of hne) k
    · cases h
  · split at h
    · rename_i hne; cases h; exact lv_fdiv hx hb hdg (sp_ok32_of hne) k
    · cases h
  · split at h
    · rename_i hne; cases h; exact lv_dmul hx hb hdg (sp_ok64_of hne) k
    · cases h
  · split at h
    · rename_i hne; cases h; exact lv_dsub hx hb hdg (sp_ok64_of hne) k
    · cases h
  · split at h
    · rename_i hne; cases h; exact lv_ddiv hx hb hdg (sp_ok64_of hne) k
    · cases h
  · cases h; exact lv_fcmp hx hb hdg k
  · cases h; exact lv_dcmp hx hb hdg k
  · split at h
    · rename_i hc; cases h; exact lv_dup hx hb hdg hc k
    · cases h
  · split at h
    · rename_i hc; cases h; exact lv_pop hx hb hdg hc k
    · cases h
  · split at h
    · rename_i hc; cases h; exact lv_dup2_11 hx hb hdg hc.1 hc.2 k
    · cases h
  · cases h
theorem sp_tg_of {off : Int} {t : Nat} {st : List Value} {pc' : Nat} (h : (sp_tg pc off).map (fun t => (t, st)) = some (pc', st')) : (pc : Int) + off = (pc' : Int) ∧ st' = st := by
  obtain ⟨t, h1, h2⟩ := Option.map_eq_some_iff.mp h
  cases h2
  unfold sp_tg at h1
  split at h1
  · rename_i hh
    cases h1
    exact ⟨(Int.toNat_of_nonneg hh).symm, rfl⟩
  · cases h1
theorem sp_br_of {q : Bool} {off : Int} {st : List Value} {pc' : Nat} (h : sp_br q pc off st = some (pc', st')) : ∃ t : Nat, (pc : Int) + off = (t : Int) ∧ pc' = (if q then t else pc + 3) ∧ st' = st := by
  unfold sp_br at h
  obtain ⟨t, h1, h2⟩ := Option.map_eq_some_iff.mp h
  cases h2
  unfold sp_tg at h1
  split at h1
  · rename_i hh
    cases h1
    exact ⟨_, (Int.toNat_of_nonneg hh).symm, rfl, rfl⟩
  · cases h1
theorem sp_br_t {P : Prop} [Decidable P] {t pc : Nat} {W : Nat → Prop} (k : W (if decide P then t else pc + 3)) (h : P) : W t := by rw [if_pos (decide_eq_true h)] at k; exact k
theorem sp_br_f {P : Prop} [Decidable P] {t pc : Nat} {W : Nat → Prop} (k : W (if decide P then t else pc + 3)) (h : ¬ P) : W (pc + 3) := by rw [if_neg (by simpa using h)] at k; exact k
set_option maxHeartbeats 1000000 in
theorem sp_jmp_sound (hx : p.tables.exec = Jvm.exec) (hb : c.code = cc) {pc' : Nat} (hdg : decode cc pc = .ok (i, len)) (h : sp_jmp i len pc st = some (pc', st'))
    (k : W p l e R s m args below meth c H locs cells slots Q (F0 m pc' ls st')) : W p l e R s m args below meth c H locs cells slots Q (F0 m pc ls st) := by
  unfold sp_jmp at h
  split at h
  · obtain ⟨h1, rfl⟩ := sp_tg_of (t := 0) h
    exact lv_goto hx hb hdg h1 k
  · obtain ⟨t, h2, rfl, rfl⟩ := sp_br_of h
    exact lv_if_eq hx hb hdg h2 (fun q => sp_br_t (W := fun z => W p l e R s m args below meth c H locs cells slots Q (F0 m z ls _)) k q) (fun q => sp_br_f (W := fun z => W p l e R s m args below meth c H locs cells slots Q (F0 m z ls _)) k q)
  · obtain ⟨t, h2, rfl, rfl⟩ := sp_br_of h
    exact lv_if_ne hx hb hdg h2 (fun q => sp_br_t (W := fun z => W p l e R s m args below meth c H locs cells slots Q (F0 m z ls _)) k q) (fun q => sp_br_f (W := fun z => W p l e R s m args below meth c H locs cells slots Q (F0 m z ls _)) k (not_not_intro q))
  · obtain ⟨t, h2, rfl, rfl⟩ := sp_br_of h
    exact lv_if_lt hx hb hdg h2 (fun q => sp_br_t (W := fun z => W p l e R s m args below meth c H locs cells slots Q (F0 m z ls _)) k q) (fun q => sp_br_f (W := fun z => W p l e R s m args below meth c H locs cells slots Q (F0 m z ls _)) k q)
  · obtain ⟨t, h2, rfl, rfl⟩ := sp_br_of h
    exact lv_if_ge hx hb hdg h2 (fun q => sp_br_t (W := fun z => W p l e R s m args below meth c H locs cells slots Q (F0 m z ls _)) k q) (fun q => sp_br_f (W := fun z => W p l e R s m args below meth c H locs cells slots Q (F0 m z ls _)) k q)
  · obtain ⟨t, h2, rfl, rfl⟩ := sp_br_of h
    exact lv_if_gt hx hb hdg h2 (fun q => sp_br_t (W := fun z => W p l e R s m args below meth c H locs cells slots Q (F0 m z ls _)) k q) (fun q => sp_br_f (W := fun z => W p l e R s m args below meth c H locs cells slots Q (F0 m z ls _)) k q)
  · obtain ⟨t, h2, rfl, rfl⟩ := sp_br_of h
    exact lv_if_le hx hb hdg h2 (fun q => sp_br_t (W := fun z => W p l e R s m args below meth c H locs cells slots Q (F0 m z ls _)) k q) (fun q => sp_br_f (W := fun z => W p l e R s m args below meth c H locs cells slots Q (F0 m z ls _)) k q)
  · obtain ⟨t, h2, rfl, rfl⟩ := sp_br_of h
    exact lv_icmp_eq hx hb hdg h2 (fun q => sp_br_t (W := fun z => W p l e R s m args below meth c H locs cells slots Q (F0 m z ls _)) k q) (fun q => sp_br_f (W := fun z => W p l e R s m args below meth c H locs cells slots Q (F0 m z ls _)) k q)
  · obtain ⟨t, h2, rfl, rfl⟩ := sp_br_of h
    exact lv_icmp_ne hx hb hdg h2 (fun q => sp_br_t (W := fun z => W p l e R s m args below meth c H locs cells slots Q (F0 m z ls _)) k q) (fun q => sp_br_f (W := fun z => W p l e R s m args below meth c H locs cells slots Q (F0 m z ls _)) k (not_not_intro q))
  · obtain ⟨t, h2, rfl, rfl⟩ := sp_br_of h
    exact lv_icmp_lt hx hb hdg h2 (fun q => sp_br_t (W := fun z => W p l e R s m args below meth c H locs cells slots Q (F0 m z ls _)) k q) (fun q => sp_br_f (W := fun z => W p l e R s m args below meth c H locs cells slots Q (F0 m z ls _)) k q)
  · obtain ⟨t, h2, rfl, rfl⟩ := sp_br_of h
    exact lv_icmp_ge hx hb hdg h2 (fun q => sp_br_t (W := fun z => W p l e R s m args below meth c H locs cells slots Q (F0 m z ls _)) k q) (fun q => sp_br_f (W := fun z => W p l e R s m args below meth c H locs cells slots Q (F0 m z ls _)) k q)
  · obtain ⟨t, h2, rfl, rfl⟩ := sp_br_of h
    exact lv_icmp_gt hx hb hdg h2 (fun q => sp_br_t (W := fun z => W p l e R s m args below meth c H locs cells slots Q (F0 m z ls _)) k q) (fun q => sp_br_f (W := fun z => W p l e R s m args below meth c H locs cells slots Q (F0 m z ls _)) k q)
  · obtain ⟨t, h2, rfl, rfl⟩ := sp_br_of h
    exact lv_icmp_le hx hb hdg h2 (fun q => sp_br_t (W := fun z => W p l e R s m args below meth c H locs cells slots Q (F0 m z ls _)) k q) (fun q => sp_br_f (W := fun z => W p l e R s m args below meth c H locs cells slots Q (F0 m z ls _)) k q)
  · cases h; exact lv_ifnull hx hb hdg k
  · split at h
    · rename_i hc
      obtain ⟨h1, rfl⟩ := sp_tg_of (t := 0) h
      exact lv_tableOut hx hb hdg hc h1 k
    · rename_i hc
      obtain ⟨off, ho, h3⟩ := Option.bind_eq_some_iff.mp h
      obtain ⟨h1, rfl⟩ := sp_tg_of (t := 0) h3
      exact lv_tableIn hx hb hdg (fun q => hc (Or.inl q)) (fun q => hc (Or.inr q)) ho h1 k
  · split at h
    · rename_i hc
      obtain ⟨h1, rfl⟩ := sp_tg_of (t := 0) h
      exact lv_lookup hx hb hdg hc rfl h1 k
    · cases h
  · cases h
end SPA
end
section
/-! ===== the abstract machine's cells: the relation to a heap, rows that store and make with the heap's size known ===== -/
def sp_cv (dA : Nat → ClassId) : va_E → va_E
  | .inl (k, x) => .inl (dA k, x)
  | .inr o => .inr o
def sp_tys (dA : Nat → ClassId) : List (ClassId × FieldType) := [(dA 0, .int), (dA 1, .boolean), (dA 2, .char), (dA 3, .long), (dA 4, .object RX3), (dA 5, .array .int)]
def sp_rel (D : va_G) (dA : Nat → ClassId) (A : Nat → Prop) (M : sp_M) (H : Heap) : Prop := (∀ z, M.1 = some z → H.size = z) ∧ ∀ a e, M.2.2.2 a = some e → A a ∧ va_at D vwCl (a, sp_cv dA e) H
theorem sp_at1 {D : va_G} {cl : List vw_C} {q : Nat × va_E} {H : Heap} (h : va_at D cl q H) : va_P D cl [q] H := fun k x hx => by
  have h0 : k < 1 := (List.getElem?_eq_some_iff.mp hx).1
  rw [show k = 0 by omega] at hx
  cases hx
  exact h
/-- one cell written -/
theorem sp_rel_up {D : va_G} {dA : Nat → ClassId} {A : Nat → Prop} {M : sp_M} {H H1 : Heap} (h : sp_rel D dA A M H) {a : Nat} {e : va_E} (hA : A a) (he : va_at D vwCl (a, sp_cv dA e) H1) (hz : H1.size = H.size) (hq : ∀ q, q ≠ a → H1[q]? = H[q]?) : sp_rel D dA A (M.1, M.2.1, M.2.2.1, sp_up M.2.2.2 a e) H1 := by
  refine ⟨fun z hz' => hz.trans (h.1 z hz'), fun b e' hb => ?_⟩
  have hb : sp_up M.2.2.2 a e b = some e' := hb
  unfold sp_up at hb
  split at hb
  · rename_i hba
    cases hb
    subst hba
    exact ⟨hA, he⟩
  · rename_i hba
    obtain ⟨h1, h2⟩ := h.2 b e' hb
    exact ⟨h1, h2.kept (hq b hba)⟩
/-- one cell made -/
theorem sp_rel_new {D : va_G} {dA : Nat → ClassId} {A : Nat → Prop} {M : sp_M} {H H1 : Heap} (h : sp_rel D dA A M H) {z : Nat} (hz : M.1 = some z) {e : va_E} (hA : A z) (he : va_at D vwCl (z, sp_cv dA e) H1) (hz1 : H1.size = H.size + 1) (hq : ∀ q, q < H.size → H1[q]? = H[q]?) (x y : Nat) : sp_rel D dA A (some (z + 1), x, y, sp_up M.2.2.2 z e) H1 := by
  have hs := h.1 z hz
  refine ⟨fun z' hz' => by cases hz'; omega, fun b e' hb => ?_⟩
  have hb : sp_up M.2.2.2 z e b = some e' := hb
  unfold sp_up at hb
  split at hb
  · rename_i hba
    cases hb
    subst hba
    exact ⟨hA, he⟩
  · obtain ⟨h1, h2⟩ := h.2 b e' hb
    exact ⟨h1, h2.kept (hq b h2.lt)⟩
section SPB
variable {p : Program} {l : Launch} {e : Env} {R : Room} {s : State} {m : MethodId} {args : Array Value} {below : List Frame} {meth : Method} {c : Code} {H : Heap} {locs : List Loc} {cells slots : Nat} {Q : State → Prop}
variable {cc : ByteArray} {pc : Nat} {ls : Array Slot} {rest : List Value} {D : va_G} {cl : List vw_C} {A : Nat → Prop} {a : Nat} {tys : List (ClassId × FieldType)} {H0 : Heap}
theorem sx_put (hexec : p.tables.exec = Jvm.exec) (hb : c.code = cc) {own ref C : String} {T : u_T} {N ci index : Nat} {Ts : List Cond} (hts : ∀ w ∈ Ts, w.before args s = true) (hin : ∀ w ∈ u_ws C T N, w ∈ Ts) (ty0 : Nat → FieldType) (hty : ∀ k, k < N → parseFieldDescriptor (T k).2.2.1 = some (ty0 k)) (hnm : ∀ a, a < N → ∀ b, b < N → a ≠ b → (T a).2.1 ≠ (T b).2.1) (hown : s.vm.findClass own = some m.cls) (hK : va_K D cl tys s) {fs : List Value} (he : va_at D cl (a, .inr (ci, fs)) H) (hc : cl[ci]? = some (C, T, N)) (k : Nat) (hk : k < N) (hlink : (Cond.fieldLink own index ref (T k).2.1 (T k).2.2.1).before args s = true) (hsame : ∀ x, s.fieldFound? (T k).1 (T k).2.1 (T k).2.2.1 = some x → s.fieldFound? ref (T k).2.1 (T k).2.2.1 = some x) (hfin : (T k).2.2.2 = false) {ty : FieldType} {v : Value} (hd : parseFieldDescriptor (T k).2.2.1 = some ty) (hn : narrow ty v = v) (hfit : fits ty v = true) (hl : k < fs.length) (hA : A a) (hS0 : va_S A H0 H locs)
    (hdg : decode cc pc = .ok (.putfield index, 3)) (kk : ∀ (H1 : Heap) (locs1 : List Loc), va_at D cl (a, .inr (ci, fs.set k v)) H1 → H1.size = H.size → (∀ q, q ≠ a → H1[q]? = H[q]?) → va_S A H0 H1 locs1 → W p l e R s m args below meth c H1 locs1 cells slots Q (F0 m (pc + 3) ls rest)) : W p l e R s m args below meth c H locs cells slots Q (F0 m pc ls (v :: .ref a :: rest)) := by
  have hap := va_apart (own := own) hts hin ty0 hty hnm hK hc
  obtain ⟨r, h1, cell, q1, q2, q3, q4⟩ := he
  have hr : r = (C, T, N) := Option.some.inj (h1.symm.trans hc)
  subst hr
  obtain ⟨hS, hfc, kC, hkC, hkind⟩ := hK.1 ci _ hc
  obtain ⟨cf, kf, fi, f, hi, hsl⟩ := hS k hk
  have hlay := hts _ (hin _ (u_in_lay hk))
  unfold u_lay at hlay
  rw [if_neg (by rw [hfin]; decide)] at hlay
  have hst := (u_facts hfc hkC (u_lays hts hin hk) hi).1
  have h6 := u_store hfc hkC hkind hlay hi hd hn hfit
  refine W.putK hexec hb (f := f) ⟨hown, hlink, ⟨_, _, _, hsame _ hi⟩, hst⟩ (by rw [q2]; exact h6) q1 q3 (by rw [hsl]; exact k2_hasslot (q4 k hk)) rfl rfl hdg fun H' e1 e2 e3 => ?_
  rw [hsl] at e1 ⊢
  exact kk H' _ ⟨_, hc, t_OB.to (V := updV (vp_V fs) k v) ⟨_, e1, q2, q3, t_set q4 hap hk v⟩ (fun j _ => vp_updV_set hl v j)⟩ e2 e3 (hS0.put e2 e3 hA)
theorem sx_putF (hexec : p.tables.exec = Jvm.exec) (hb : c.code = cc) {own ref C : String} {T : u_T} {N ci index : Nat} {Ts : List Cond} (hts : ∀ w ∈ Ts, w.before args s = true) (hin : ∀ w ∈ u_ws C T N, w ∈ Ts) (ty0 : Nat → FieldType) (hty : ∀ k, k < N → parseFieldDescriptor (T k).2.2.1 = some (ty0 k)) (hnm : ∀ a, a < N → ∀ b, b < N → a ≠ b → (T a).2.1 ≠ (T b).2.1) (hown : s.vm.findClass own = some m.cls) (hK : va_K D cl tys s) {fs : List Value} (he : va_at D cl (a, .inr (ci, fs)) H) (hc : cl[ci]? = some (C, T, N)) (k : Nat) (hk : k < N) (hlink : (Cond.fieldLink own index ref (T k).2.1 (T k).2.2.1).before args s = true) (hsame : ∀ x, s.fieldFound? (T k).1 (T k).2.1 (T k).2.2.1 = some x → s.fieldFound? ref (T k).2.1 (T k).2.2.1 = some x) (hfin : (T k).2.2.2 = true) (hin2 : meth.name = "<init>") (hdecl : (T k).1 = own) {ty : FieldType} {v : Value} (hd : parseFieldDescriptor (T k).2.2.1 = some ty) (hn : narrow ty v = v) (hfit : fits ty v = true) (hl : k < fs.length) (hA : A a) (hS0 : va_S A H0 H locs)
    (hdg : decode cc pc = .ok (.putfield index, 3)) (kk : ∀ (H1 : Heap) (locs1 : List Loc), va_at D cl (a, .inr (ci, fs.set k v)) H1 → H1.size = H.size → (∀ q, q ≠ a → H1[q]? = H[q]?) → va_S A H0 H1 locs1 → W p l e R s m args below meth c H1 locs1 cells slots Q (F0 m (pc + 3) ls rest)) : W p l e R s m args below meth c H locs cells slots Q (F0 m pc ls (v :: .ref a :: rest)) := by
  have hap := va_apart (own := own) hts hin ty0 hty hnm hK hc
  obtain ⟨r, h1, cell, q1, q2, q3, q4⟩ := he
  have hr : r = (C, T, N) := Option.some.inj (h1.symm.trans hc)
  subst hr
  obtain ⟨hS, hfc, kC, hkC, hkind⟩ := hK.1 ci _ hc
  obtain ⟨cf, kf, fi, f, hi, hsl⟩ := hS k hk
  have hlay := hts _ (hin _ (u_in_lay hk))
  unfold u_lay at hlay
  rw [if_pos hfin] at hlay
  have hst := (u_facts hfc hkC (u_lays hts hin hk) hi).1
  have hcf : m.cls = cf := by
    obtain ⟨_, _, c', _, _, _, -, -, hf', -, -, -, hown2, -⟩ := Cond.laysFinal_spec hlay
    have e1 : c' = cf := by have := hi.symm.trans hf'; simp at this; exact this.1.symm
    rw [hdecl] at hown2
    rw [← e1]; exact Option.some.inj (hown.symm.trans hown2)
  have h6 := u_fits hfc hkC hkind (Or.inr hlay) hi hd hn hfit
  refine W.putFinK hexec hb hown hlink (hsame _ hi) hst hcf hin2 (by rw [q2]; exact h6) q1 q3 (by rw [hsl]; exact k2_hasslot (q4 k hk)) rfl rfl hdg fun H' e1 e2 e3 => ?_
  rw [hsl] at e1 ⊢
  exact kk H' _ ⟨_, hc, t_OB.to (V := updV (vp_V fs) k v) ⟨_, e1, q2, q3, t_set q4 hap hk v⟩ (fun j _ => vp_updV_set hl v j)⟩ e2 e3 (hS0.put e2 e3 hA)
theorem sx_iast (hexec : p.tables.exec = Jvm.exec) (hb : c.code = cc) (hK : va_K D cl tys s) (t0 : Nat) {cA : ClassId} {n : Nat} {f : Nat → Int32} (he : va_at D cl (a, .inl (cA, n, .inl f)) H) (hA : A a) (hS : va_S A H0 H locs) (ht : tys[t0]? = some (cA, .int)) {i : Int32} {x : Int32} (hin : vp_in i n) (hdg : decode cc pc = .ok (.iastore, 1))
    (kk : ∀ (H1 : Heap) (locs1 : List Loc), va_at D cl (a, .inl (cA, n, .inl (upd f i.toNatClampNeg x))) H1 → H1.size = H.size → (∀ q, q ≠ a → H1[q]? = H[q]?) → va_S A H0 H1 locs1 → W p l e R s m args below meth c H1 locs1 cells slots Q (F0 m (pc + 1) ls rest)) : W p l e R s m args below meth c H locs cells slots Q (F0 m pc ls (.int x :: .int i :: .ref a :: rest)) := by
  refine W.iast hexec hb he ((hK.2 t0 _ ht).1 n (fun j => .int (f j))) (fun q => by cases q) (by show ¬ (i < 0 ∨ (arrV _ _ _).slots.size ≤ _); rw [arrV_size]; exact hin) rfl rfl hdg fun H1 e z oq => ?_
  refine kk H1 _ ?_ z oq (hS.put z oq hA)
  show H1[a]? = some (vp_cell _ _)
  rw [e]
  rw [vp_cell_i, vp_cell_i, arrV_store]
  congr 2
  funext q
  by_cases hq : q = i.toNatClampNeg
  · subst hq
    simp [updV, upd]
  · simp [updV, upd, hq]
theorem sx_zast (hexec : p.tables.exec = Jvm.exec) (hb : c.code = cc) (hK : va_K D cl tys s) (t0 : Nat) {cA : ClassId} {n : Nat} {f : Nat → Int32} (he : va_at D cl (a, .inl (cA, n, .inl f)) H) (hA : A a) (hS : va_S A H0 H locs) (ht : tys[t0]? = some (cA, .boolean)) {i : Int32} {x : Int32} (hin : vp_in i n) (hdg : decode cc pc = .ok (.bastore, 1))
    (kk : ∀ (H1 : Heap) (locs1 : List Loc), va_at D cl (a, .inl (cA, n, .inl (upd f i.toNatClampNeg (vp_nar .boolean x)))) H1 → H1.size = H.size → (∀ q, q ≠ a → H1[q]? = H[q]?) → va_S A H0 H1 locs1 → W p l e R s m args below meth c H1 locs1 cells slots Q (F0 m (pc + 1) ls rest)) : W p l e R s m args below meth c H locs cells slots Q (F0 m pc ls (.int x :: .int i :: .ref a :: rest)) := by
  refine W.zast hexec hb he ((hK.2 t0 _ ht).1 n (fun j => .int (f j))) (fun q => by cases q) (by show ¬ (i < 0 ∨ (arrV _ _ _).slots.size ≤ _); rw [arrV_size]; exact hin) rfl rfl hdg fun H1 e z oq => ?_
  refine kk H1 _ ?_ z oq (hS.put z oq hA)
  show H1[a]? = some (vp_cell _ _)
  rw [e]
  rw [vp_cell_i, vp_cell_i, arrV_store]
  congr 2
  funext q
  by_cases hq : q = i.toNatClampNeg
  · subst hq
    simp [updV, upd, vp_nar]
    try rfl
  · simp [updV, upd, hq]
theorem sx_cast (hexec : p.tables.exec = Jvm.exec) (hb : c.code = cc) (hK : va_K D cl tys s) (t0 : Nat) {cA : ClassId} {n : Nat} {f : Nat → Int32} (he : va_at D cl (a, .inl (cA, n, .inl f)) H) (hA : A a) (hS : va_S A H0 H locs) (ht : tys[t0]? = some (cA, .char)) {i : Int32} {x : Int32} (hin : vp_in i n) (hdg : decode cc pc = .ok (.castore, 1))
    (kk : ∀ (H1 : Heap) (locs1 : List Loc), va_at D cl (a, .inl (cA, n, .inl (upd f i.toNatClampNeg (vp_nar .char x)))) H1 → H1.size = H.size → (∀ q, q ≠ a → H1[q]? = H[q]?) → va_S A H0 H1 locs1 → W p l e R s m args below meth c H1 locs1 cells slots Q (F0 m (pc + 1) ls rest)) : W p l e R s m args below meth c H locs cells slots Q (F0 m pc ls (.int x :: .int i :: .ref a :: rest)) := by
  refine W.cast hexec hb he ((hK.2 t0 _ ht).1 n (fun j => .int (f j))) (fun q => by cases q) (by show ¬ (i < 0 ∨ (arrV _ _ _).slots.size ≤ _); rw [arrV_size]; exact hin) rfl rfl hdg fun H1 e z oq => ?_
  refine kk H1 _ ?_ z oq (hS.put z oq hA)
  show H1[a]? = some (vp_cell _ _)
  rw [e]
  rw [vp_cell_i, vp_cell_i, arrV_store]
  congr 2
  funext q
  by_cases hq : q = i.toNatClampNeg
  · subst hq
    simp [updV, upd, vp_nar]
    try rfl
  · simp [updV, upd, hq]
theorem sx_last (hexec : p.tables.exec = Jvm.exec) (hb : c.code = cc) (hK : va_K D cl tys s) (t0 : Nat) {cA : ClassId} {n : Nat} {f : Nat → Int64} (he : va_at D cl (a, .inl (cA, n, .inr (.inl f))) H) (hA : A a) (hS : va_S A H0 H locs) (ht : tys[t0]? = some (cA, .long)) {i : Int32} {x : Int64} (hin : vp_in i n) (hdg : decode cc pc = .ok (.lastore, 1))
    (kk : ∀ (H1 : Heap) (locs1 : List Loc), va_at D cl (a, .inl (cA, n, .inr (.inl (vp_updL f i.toNatClampNeg x)))) H1 → H1.size = H.size → (∀ q, q ≠ a → H1[q]? = H[q]?) → va_S A H0 H1 locs1 → W p l e R s m args below meth c H1 locs1 cells slots Q (F0 m (pc + 1) ls rest)) : W p l e R s m args below meth c H locs cells slots Q (F0 m pc ls (.long x :: .int i :: .ref a :: rest)) := by
  refine W.last hexec hb he ((hK.2 t0 _ ht).1 n (fun j => .long (f j))) (fun q => by cases q) (by show ¬ (i < 0 ∨ (arrV _ _ _).slots.size ≤ _); rw [arrV_size]; exact hin) rfl rfl hdg fun H1 e z oq => ?_
  refine kk H1 _ ?_ z oq (hS.put z oq hA)
  show H1[a]? = some (vp_cell _ _)
  rw [e]
  rw [vp_cell_l, vp_cell_l, arrV_store]
  congr 2
  funext q
  by_cases hq : q = i.toNatClampNeg
  · subst hq
    simp [updV, vp_updL]
  · simp [updV, vp_updL, hq]
theorem sx_aast (hexec : p.tables.exec = Jvm.exec) (hb : c.code = cc) (hK : va_K D cl tys s) (t0 ci : Nat) {cA : ClassId} {r : vw_C} {n v : Nat} {vs : List Value} {f : Nat → Option Nat} (he : va_at D cl (a, .inl (cA, n, .inr (.inr (.inr (.inr f))))) H) (hA : A a) (hS : va_S A H0 H locs) (ht : tys[t0]? = some (cA, .object r.1)) (hv : va_at D cl (v, .inr (ci, vs)) H) (hc : cl[ci]? = some r) {i : Int32} (hin : vp_in i n) (hdg : decode cc pc = .ok (.aastore, 1))
    (kk : ∀ (H1 : Heap) (locs1 : List Loc), va_at D cl (a, .inl (cA, n, .inr (.inr (.inr (.inr (va_up f i.toNatClampNeg (some v))))))) H1 → H1.size = H.size → (∀ q, q ≠ a → H1[q]? = H[q]?) → va_S A H0 H1 locs1 → W p l e R s m args below meth c H1 locs1 cells slots Q (F0 m (pc + 1) ls rest)) : W p l e R s m args below meth c H locs cells slots Q (F0 m pc ls (.ref v :: .int i :: .ref a :: rest)) := by
  have hlt : i.toNatClampNeg < n := Nat.not_le.mp fun q => hin (Or.inr q)
  have h0 : ¬ i < 0 := fun q => hin (Or.inl q)
  obtain ⟨r', hr', cellV, g1, g2, g3, -⟩ := hv
  have hcls := (hK.1 ci r hc).2
  obtain ⟨kA, comp, k1, k2, k3, -⟩ := (hK.2 t0 _ ht).2
  have hcomp : comp = D.1 ci := Option.some.inj (k3.symm.trans hcls.1)
  subst hcomp
  obtain ⟨kC, hkC, -⟩ := hcls.2
  refine W.aast hexec hb he (fun q h => by cases h) (fun h => by cases h) k1 k2 rfl hkC ⟨h0, by show _ < (arrV _ _ _).slots.size; rw [arrV_size]; exact hlt⟩ g1 (fun q h => by rw [g3] at h; cases h) (by rw [g2]; exact hkC) (by rw [g2]; exact va_assign hcls) rfl rfl hdg fun H1 e z oq => ?_
  refine kk H1 _ ?_ z oq (hS.put z oq hA)
  show H1[a]? = some (vp_cell _ _)
  rw [e]
  rw [vp_cell_q, vp_cell_q, arrV_store]
  congr 2
  funext q
  by_cases hq : q = i.toNatClampNeg
  · subst hq
    simp [updV, va_up, va_rf]
  · simp [updV, va_up, hq]
theorem sx_aald (hexec : p.tables.exec = Jvm.exec) (hb : c.code = cc) (hK : va_K D cl tys s) (t0 : Nat) {cA : ClassId} {n : Nat} {f : Nat → Option Nat} {ty : FieldType} (he : va_at D cl (a, .inl (cA, n, .inr (.inr (.inr (.inr f))))) H) (ht : tys[t0]? = some (cA, ty)) (hty : ty.isReference = true) {i : Int32} (hin : vp_in i n) (hdg : decode cc pc = .ok (.aaload, 1))
    (kk : W p l e R s m args below meth c H locs cells slots Q (F0 m (pc + 1) ls (va_rf (f i.toNatClampNeg) :: rest))) : W p l e R s m args below meth c H locs cells slots Q (F0 m pc ls (.int i :: .ref a :: rest)) := by
  have hlt : i.toNatClampNeg < n := Nat.not_le.mp fun q => hin (Or.inr q)
  exact W.aald (v := va_rf (f i.toNatClampNeg)) hexec hb he ((hK.2 t0 _ ht).1 n (fun j => va_rf (f j))) hty (fun q => by cases q) (by show ¬ (i < 0 ∨ (arrV _ _ _).slots.size ≤ _); rw [arrV_size]; exact hin) (by show (arrV _ _ _).slots[_]? = _; rw [arrV_read _ _ hlt]) rfl rfl hdg kk
theorem sx_new {c0 : Code} (hexec : p.tables.exec = Jvm.exec) (hb : c0.code = cc) {own C : String} {T : u_T} {N ci index : Nat} {Ts : List Cond} (hts : ∀ w ∈ Ts, w.before args s = true) (hin : ∀ w ∈ u_ws C T N, w ∈ Ts) (ty : Nat → FieldType) (hty : ∀ k, k < N → parseFieldDescriptor (T k).2.2.1 = some (ty k)) (hown : s.vm.findClass own = some m.cls) (hcl : (Cond.classLink own index C).before args s = true) (hinst : (Cond.instantiable C N).before args s = true) (hini : (Cond.initialized C).before args s = true)
    (hK : va_K D cl tys s) (hS : va_S A H0 H locs) (hc : cl[ci]? = some (C, T, N)) {fs : List Value} (hfs : ∀ j, j < N → defaultValue (ty j) = vp_V fs j) (hcells : cells + 1 ≤ R.cells) (hslots : slots + N ≤ R.slots) (hdg : decode cc pc = .ok (.new index, 3))
    (kk : ∀ (H1 : Heap), va_at D cl (H.size, .inr (ci, fs)) H1 → H1.size = H.size + 1 → (∀ q, q < H.size → H1[q]? = H[q]?) → va_S A H0 H1 locs →
      W p l e R s m args below meth c0 H1 locs (cells + 1) (slots + N) Q (F0 m (pc + 3) ls (.ref H.size :: rest))) : W p l e R s m args below meth c0 H locs cells slots Q (F0 m pc ls rest) := by
  have hKn := hK.1 ci _ hc
  refine W.newcK hexec hb hown hcl hinst hini rfl hdg hcells hslots hKn.2.1 rfl fun H1 kC hkC e1 z1 o1 => ?_
  exact kk H1 ⟨_, hc, (u_born ty hts hin hKn hkC e1 hty).to hfs⟩ z1 o1 ⟨Nat.le_trans hS.1 (by omega), fun x h1 h2 => (o1 x (Nat.lt_of_lt_of_le h1 hS.1)).trans (hS.2.1 x h1 h2), hS.2.2⟩
theorem sx_newa (hexec : p.tables.exec = Jvm.exec) (hb : c.code = cc) {atype : ArrayType} {ty : FieldType} (hty : newarray.typeOf atype = ty) (harr : (Cond.arrayClass ty).before args s = true) {cA : ClassId} (hcA : s.vm.findClass ("[" ++ ty.toString) = some cA) (hS : va_S A H0 H locs) {n : Int32} {N' : Nat} {a0 : vp_A} (ha : vp_cell cA a0 = arrV cA N' (fun _ => defaultValue ty)) (hn : ¬ n < 0) (hN : n.toNatClampNeg = N')
    (hbytes : N' * componentBytes ty ≤ 536870912) (hcells : cells + 1 ≤ R.cells) (hslots : slots + N' ≤ R.slots) (hdg : decode cc pc = .ok (.newarray atype, 2))
    (kk : ∀ (H1 : Heap), va_at D cl (H.size, .inl (cA, a0)) H1 → H1.size = H.size + 1 → (∀ q, q < H.size → H1[q]? = H[q]?) → va_S A H0 H1 locs →
      W p l e R s m args below meth c H1 locs (cells + 1) (slots + N') Q (F0 m (pc + 2) ls (.ref H.size :: rest))) : W p l e R s m args below meth c H locs cells slots Q (F0 m pc ls (.int n :: rest)) := by
  subst hty
  refine va_newaK hexec hb harr rfl hdg rfl hn hN hbytes hcells hslots rfl fun H1 cB e1 z1 o1 hAr hf => ?_
  cases hcA.symm.trans hf
  exact kk H1 (by show H1[_]? = some (vp_cell _ _); rw [ha]; exact e1) z1 o1 ⟨Nat.le_trans hS.1 (by omega), fun x h1 h2 => (o1 x (Nat.lt_of_lt_of_le h1 hS.1)).trans (hS.2.1 x h1 h2), hS.2.2⟩
theorem sx_anew (hexec : p.tables.exec = Jvm.exec) (hb : c.code = cc) {own C : String} {index : Nat} (hown : s.vm.findClass own = some m.cls) (hclink : (Cond.classLink own index C).before args s = true) (hover : va_AO C s) {cA : ClassId} (hcA : s.vm.findClass ("[" ++ (FieldType.object C).toString) = some cA) (hS : va_S A H0 H locs) {n : Int32} {N' : Nat} (hn : ¬ n < 0) (hN : n.toNatClampNeg = N') (hbytes : N' * 4 ≤ 536870912) (hcells : cells + 1 ≤ R.cells) (hslots : slots + N' ≤ R.slots) (hdg : decode cc pc = .ok (.anewarray index, 3))
    (kk : ∀ (H1 : Heap), va_at D cl (H.size, .inl (cA, N', .inr (.inr (.inr (.inr (fun _ => none)))))) H1 → H1.size = H.size + 1 → (∀ q, q < H.size → H1[q]? = H[q]?) → va_S A H0 H1 locs →
      W p l e R s m args below meth c H1 locs (cells + 1) (slots + N') Q (F0 m (pc + 3) ls (.ref H.size :: rest))) : W p l e R s m args below meth c H locs cells slots Q (F0 m pc ls (.int n :: rest)) := by
  subst hN
  refine W.anew hexec hb hown hclink (va_AO.use hover) rfl hdg rfl hn hbytes hcells hslots fun cB kA comp f1 f2 f3 f4 => ?_
  have hcc : cB = cA := by first | exact Option.some.inj (f1.symm.trans hcA) | exact Option.some.inj (f4.symm.trans hcA)
  subst hcc
  generalize hH1 : H.push ({ cls := cB, slots := Array.replicate n.toNatClampNeg .null, vm := .none } : Cell) = H1
  have z1 : H1.size = H.size + 1 := by rw [← hH1, Array.size_push]
  have e1 : H1[H.size]? = some (arrV cB n.toNatClampNeg (fun _ => .null)) := by rw [← hH1, Array.getElem?_push_size, ← arrV_new]
  have o1 : ∀ q : Nat, q < H.size → H1[q]? = H[q]? := fun q hq => by rw [← hH1, Array.getElem?_push, if_neg (Nat.ne_of_lt hq)]
  exact kk H1 (by show H1[H.size]? = some (vp_cell _ _); rw [vp_cell_q]; exact e1) z1 o1 ⟨Nat.le_trans hS.1 (by omega), fun x h1 h2 => (o1 x (Nat.lt_of_lt_of_le h1 hS.1)).trans (hS.2.1 x h1 h2), hS.2.2⟩
def sp_AOA (ty : FieldType) (U : State) : Prop := (Cond.arrayOver (.array ty)).before #[] U = true
theorem sp_overB {args : Array Value} {first s : State} {o : Option Outcome} {idx : List Nat} {t : FieldType} (h : (Cond.arrayOver (.array t)).holds args first o s idx = true) :
    ∃ comp c k, s.vm.findClass (FieldType.array t).toString = some comp ∧ (s.vm.classes.findIdx? fun x => match x.kind with | .array component _ => component == comp | _ => false) = some c ∧ s.vm.classes[c]? = some k ∧ k.kind = .array comp (.array t) ∧ s.vm.findClass ("[" ++ (FieldType.array t).toString) = some c := by
  simp only [Cond.holds, Cond.value, beq_iff_eq] at h
  cases hc : s.vm.findClass (FieldType.array t).toString with
  | none => simp [hc] at h
  | some comp =>
    simp only [hc, Option.bind_some, Option.bind_eq_some_iff, Option.map_eq_some_iff] at h
    obtain ⟨c, hi, k, hk, hb⟩ := h
    obtain ⟨hlt, hp, -⟩ := Array.findIdx?_eq_some_iff_getElem.mp hi
    have hkk : s.vm.classes[c] = k := (Array.getElem?_eq_some_iff.mp hk).2
    rw [hkk] at hp
    cases hkind : k.kind with
    | array component ty =>
      rw [hkind] at hb hp
      simp at hb hp
      exact ⟨comp, c, k, rfl, hi, hk, by rw [hkind, hp, hb.1], hb.2⟩
    | _ => rw [hkind] at hb; simp at hb
theorem sp_AOA.moved {ty : FieldType} {u U : State} (hvm : u.vm.Alike U.vm) (h : sp_AOA ty u) : sp_AOA ty U := by
  obtain ⟨comp, c, k, h1, h2, h3, h4, h5⟩ := sp_overB h
  obtain ⟨k', hk', he⟩ := hvm.2.2 _ _ h3
  have hi : (U.vm.classes.findIdx? fun (x : Class) => match x.kind with | .array component _ => component == comp | _ => false) = some c := by
    have e1 := va_idx_bare U.vm comp
    have e2 := va_idx_bare u.vm comp
    have e3 : U.vm.bare = u.vm.bare := by first | exact hvm.bare_eq | exact hvm.bare_eq.symm
    rw [e3] at e1
    exact e1.symm.trans (e2.trans h2)
  have hkind : k'.kind = .array comp (.array ty) := by rw [he]; exact h4
  have f1 : U.vm.findClass (FieldType.array ty).toString = some comp := by rw [hvm.findClass]; exact h1
  have f2 : U.vm.findClass ("[" ++ (FieldType.array ty).toString) = some c := by rw [hvm.findClass]; exact h5
  unfold sp_AOA Cond.before Cond.holds
  simp only [Cond.value]
  rw [f1, Option.bind_some]
  refine (congrArg (fun o : Option Nat => (o.bind (fun c => (U.vm.classes[c]?).map fun (k : Class) => match k.kind with | .array _ t => decide (t = FieldType.array ty) && decide (U.vm.findClass ("[" ++ (FieldType.array ty).toString) = some c) | _ => false) == some true)) hi).trans ?_
  simp [hk', hkind, f2]
theorem sx_mna (hexec : p.tables.exec = Jvm.exec) (hb : c.code = cc) {own : String} {index : Nat} {cA cy : ClassId} (hown : s.vm.findClass own = some m.cls) (hclink : (Cond.classLink own index ("[" ++ (FieldType.array .int).toString)).before args s = true) (hover : sp_AOA .int s) (harr : (Cond.arrayClass .int).before args s = true) (hcy : s.vm.findClass (FieldType.array .int).toString = some cy) (hcA : s.vm.findClass ("[" ++ (FieldType.array .int).toString) = some cA)
    (hS : va_S A H0 H locs) {n k : Int32} {N' K' : Nat} (hn : ¬ n < 0) (hk : ¬ k < 0) (hN : n.toNatClampNeg = N') (hM : k.toNatClampNeg = K')
    (hb1 : N' * 4 ≤ 536870912) (hb2 : K' * 4 ≤ 536870912) (hcells : cells + (1 + N') ≤ R.cells) (hslots : slots + (N' + N' * K') ≤ R.slots) (hdg : decode cc pc = .ok (.multianewarray index 2, 4))
    (kk : ∀ (H1 : Heap), va_at D cl (H.size, .inl (cA, N', .inr (.inr (.inr (.inr (fun i => if i < N' then some (H.size + 1 + i) else none)))))) H1 → (∀ j, j < N' → va_at D cl (H.size + 1 + j, .inl (cy, K', .inl (fun _ => 0))) H1) → H1.size = H.size + 1 + N' → (∀ q, q < H.size → H1[q]? = H[q]?) → va_S A H0 H1 locs →
      W p l e R s m args below meth c H1 locs (cells + 1 + N') (slots + N' + N' * K') Q (F0 m (pc + 4) ls (.ref H.size :: rest))) : W p l e R s m args below meth c H locs cells slots Q (F0 m pc ls (.int k :: .int n :: rest)) := by
  subst hN
  subst hM
  intro T hT Xs
  obtain ⟨vm₁, cB, comp, -, fA, fC, hO, -, X', step⟩ := Xs.multianewarray2F hexec hown hclink hover harr (g := F0 m pc ls (.int k :: .int n :: rest)) rfl (by rw [hb]; exact hdg) rfl hn hk hb1 hb2 (by omega) rfl rfl hcells hslots
  cases hcy.symm.trans fC
  cases hcA.symm.trans fA
  generalize hF : Jvm.Free.Multi.fill (T.setVm vm₁) cA cy n.toNatClampNeg k.toNatClampNeg (defaultValue .int) n.toNatClampNeg = F at X' step
  have hTh : (T.setVm vm₁).heap = H := hT
  obtain ⟨f1, f2, -, -⟩ := Jvm.Free.Multi.fill_facts (T.setVm vm₁) cA cy n.toNatClampNeg k.toNatClampNeg (defaultValue .int) n.toNatClampNeg
  rw [hF, hTh] at f1 f2
  have hold : ∀ x : Nat, x < H.size → F.heap[x]? = H[x]? := fun x hx => by
    have := Jvm.Free.Multi.fill_old (T.setVm vm₁) cA cy n.toNatClampNeg k.toNatClampNeg (defaultValue .int) (a := x) (by rw [hTh]; exact hx) n.toNatClampNeg
    rw [hF, hTh] at this
    exact this
  have hz : Jvm.Free.Multi.innerC cy k.toNatClampNeg (defaultValue .int) = vp_cell cy (k.toNatClampNeg, .inl (fun _ => 0)) := by
    rw [vp_cell_i, ← arrV_new]
    rfl
  have hrow : ∀ j : Nat, j < n.toNatClampNeg → F.heap[H.size + 1 + j]? = some (vp_cell cy (k.toNatClampNeg, .inl (fun _ => 0))) := fun j hj => by
    have := Jvm.Free.Multi.fill_inner (T.setVm vm₁) cA cy n.toNatClampNeg k.toNatClampNeg (defaultValue .int) n.toNatClampNeg j hj
    rw [hF, hTh, hz] at this
    exact this
  have hout : Jvm.Free.Multi.outerC cA n.toNatClampNeg H.size n.toNatClampNeg = vp_cell cA (n.toNatClampNeg, .inr (.inr (.inr (.inr (fun i => if i < n.toNatClampNeg then some (H.size + 1 + i) else none))))) := by
    rw [vp_cell_q]
    exact vr_outer cA n.toNatClampNeg H.size n.toNatClampNeg
  rw [hout] at f2
  obtain ⟨t, a1, b1⟩ := kk F.heap f2 hrow f1 hold ⟨by rw [f1]; have := hS.1; omega, fun x h1 h2 => (hold x (Nat.lt_of_lt_of_le h1 hS.1)).trans (hS.2.1 x h1 h2), hS.2.2⟩ F rfl X'
  refine ⟨t, step t ?_, b1⟩
  have e : T.heap.size = H.size := by rw [hT]
  rw [e]
  exact a1
end SPB
end
section
/-! ===== the abstract machine's rows over cells ===== -/
def sp_f1 (k j : Nat) : Int32 := if k = 0 then (if j = 0 then 2 else if j = 1 then 0 else 1) else (if j = 0 then 99 else if j = 1 then 2 else 20)
def sp_ex : List String := ["java/lang/IllegalStateException", "java/lang/IllegalArgumentException", "java/lang/IndexOutOfBoundsException"]
/-- what the tables and the cells that are never written say, at every state of the run -/
def sp_ctx (D : va_G) (dA : Nat → ClassId) (A : Nat → Prop) (G : sp_G) (U : State) (H : Heap) : Prop :=
  va_K D vwCl (sp_tys dA) U ∧ (∀ w ∈ lw_tbl, sp_nwOK w = true → va_Nw w U) ∧ va_AO RX3 U ∧ sp_AOA .int U ∧
  (∀ E ∈ sp_ex, ∀ E' ∈ sp_ex, E ≠ E' → va_Nc E E' U) ∧ (∀ q ∈ sp_thT, ∃ a, vk_R RX5 q.2.2.2.2.1 q.2.2.2.2.2.2.2 a U) ∧
  vx_Zq Bundle.tN "UNASSIGNED_STACK" Bundle.steD A U H ∧ vx_Zq Bundle.tN "SUPPRESSED_SENTINEL" Bundle.listD A U H ∧
  va_Z RX5 "LEAST_SETTINGS" "[I" (.ref G.2.2.2.1) A U H ∧ va_Z RX5 "MOST_SETTINGS" "[I" (.ref G.2.2.2.2) A U H ∧
  va_T .int G.2.2.2.1 3 (fun j => .int (sp_f1 0 j)) A U H ∧ va_T .int G.2.2.2.2 3 (fun j => .int (sp_f1 1 j)) A U H ∧
  va_X G.1 G.2.1 G.2.2.1 U H ∧ G.1 < H.size ∧ ¬ A G.1
theorem sp_nw_warm {s U : State} (hW : s.WarmedH U.vm) {w : Cond} (hw : sp_nwOK w = true) (h : va_Nw w s) : va_Nw w U := by
  cases w <;> first
    | exact va_Nw.warmF hW h
    | exact va_Nw.warmM hW h
    | exact va_Nw.warmD hW h
    | exact va_Nw.warmC hW h
    | (exfalso; simp [sp_nwOK] at hw)
theorem sp_ctx.warm {D : va_G} {dA : Nat → ClassId} {A : Nat → Prop} {G : sp_G} {s U : State} {H : Heap} (hW : s.WarmedH U.vm) (h : sp_ctx D dA A G s H) : sp_ctx D dA A G U H := by
  obtain ⟨h1, h2, h3, h4, h5, h6, h7, h8, h9, h10, h11, h12, h13, h14, h15⟩ := h
  exact ⟨va_K.moved hW.alike h1, fun w hw ho => sp_nw_warm hW ho (h2 w hw ho), va_AO.moved hW.alike h3, sp_AOA.moved hW.alike h4, fun E hE E' hE' hne => va_Nc.moved hW.alike (h5 E hE E' hE' hne), fun q hq => (h6 q hq).imp fun a ha => vk_R.warm hW ha,
    vx_Zq.moved hW.alike h7, vx_Zq.moved hW.alike h8, va_Z.moved hW.alike h9, va_Z.moved hW.alike h10, va_T.moved hW.alike h11, va_T.moved hW.alike h12, va_X.moved hW.alike h13, h14, h15⟩
theorem sp_ctx.kept {D : va_G} {dA : Nat → ClassId} {A : Nat → Prop} {G : sp_G} {U : State} {H H1 : Heap} (h : sp_ctx D dA A G U H) (hz : H.size ≤ H1.size) (hq : ∀ q : Nat, q < H.size → ¬ A q → H1[q]? = H[q]?) : sp_ctx D dA A G U H1 := by
  obtain ⟨h1, h2, h3, h4, h5, h6, h7, h8, h9, h10, h11, h12, h13, h14, h15⟩ := h
  exact ⟨h1, h2, h3, h4, h5, h6, h7.kept hq, h8.kept hq, h9.kept hq, h10.kept hq, h11.kept hq, h12.kept hq, h13.kept (hq _ h14 h15), Nat.lt_of_lt_of_le h14 hz, h15⟩
/-- the same state by another name: frames may differ -/
theorem sp_ctx.alike {D : va_G} {dA : Nat → ClassId} {A : Nat → Prop} {G : sp_G} {U V : State} {H : Heap} (hv : V.vm = U.vm) (h : sp_ctx D dA A G U H) : sp_ctx D dA A G V H :=
  sp_ctx.warm (by rw [hv]; exact State.WarmedH.refl U) h
theorem sp_cl {ci : Nat} (h : ci < 7) : vwCl[ci]? = some (sp_cls ci, sp_Tf ci, sp_N ci) ∧ (∀ w ∈ u_ws (sp_cls ci) (sp_Tf ci) (sp_N ci), w ∈ sp_AW) ∧ (∀ k, k < sp_N ci → parseFieldDescriptor (sp_Tf ci k).2.2.1 = some (sp_ty ci k)) ∧ (∀ a, a < sp_N ci → ∀ b, b < sp_N ci → a ≠ b → (sp_Tf ci a).2.1 ≠ (sp_Tf ci b).2.1) := by
  match ci, h with
  | 0, _ => exact ⟨rfl, sp_lay0, tyX0_ok, nmX0⟩
  | 1, _ => exact ⟨rfl, sp_lay1, tyX1_ok, nmX1⟩
  | 2, _ => exact ⟨rfl, sp_lay2, tyX2_ok, nmX2⟩
  | 3, _ => exact ⟨rfl, sp_lay3, tyX3_ok, nmX3⟩
  | 4, _ => exact ⟨rfl, sp_lay4, tyX4_ok, nmX4⟩
  | 5, _ => exact ⟨rfl, sp_lay5, tyX5_ok, nmX5⟩
  | 6, _ => exact ⟨rfl, sp_lay6, tyX6_ok, nmX6⟩
theorem sp_Tf_own : ∀ ci, ci < 7 → ∀ k, k < sp_N ci → (sp_Tf ci k).1 = sp_cls ci := by decide +kernel
def sp_fit (ty : FieldType) (v : Value) : Bool := match ty, v with
  | .int, .int _ => true
  | .long, .long _ => true
  | .boolean, .int x => decide (x = 0 ∨ x = 1)
  | .object _, .ref _ => true
  | .array _, .ref _ => true
  | _, _ => false
theorem sp_fit_ok {ty : FieldType} {v : Value} (h : sp_fit ty v = true) : narrow ty v = v ∧ fits ty v = true := by
  unfold sp_fit at h
  split at h
  · exact ⟨rfl, rfl⟩
  · exact ⟨rfl, rfl⟩
  · rcases of_decide_eq_true h with rfl | rfl <;> decide
  · exact ⟨rfl, rfl⟩
  · exact ⟨rfl, rfl⟩
  · cases h
def sp_in (j : Int32) (n : Nat) : Bool := decide (¬ (j < 0 ∨ n ≤ j.toNatClampNeg))
theorem sp_in_of {j : Int32} {n : Nat} (h : sp_in j n = true) : vp_in j n := by unfold sp_in at h; unfold vp_in; exact of_decide_eq_true h
def sp_getf (c idx a : Nat) (st : List Value) (M : sp_M) : Option (List Value × sp_M) := match (sp_fd sp_flT c idx).or (sp_fd sp_fnT c idx), M.2.2.2 a with
  | some (ci, k), some (.inr (cj, fs)) => if cj = ci then (fs[k]?).map (fun v => (v :: st, M)) else none
  | _, _ => none
def sp_set (M : sp_M) (a : Nat) (e : va_E) : sp_M := (M.1, M.2.1, M.2.2.1, sp_up M.2.2.2 a e)
def sp_putf (c : Nat) (ini : Bool) (idx : Nat) (v : Value) (a : Nat) (st : List Value) (M : sp_M) : Option (List Value × sp_M) := match sp_fd sp_flT c idx, M.2.2.2 a with
  | some (ci, k), some (.inr (cj, fs)) => if cj = ci ∧ k < fs.length ∧ sp_fit (sp_ty ci k) v = true ∧ ((sp_Tf ci k).2.2.2 = true → ini = true ∧ ci = c) then some (st, sp_set M a (.inr (ci, fs.set k v))) else none
  | _, _ => none
def sp_ild (G : sp_G) (k : Nat) (j : Int32) (a : Nat) (st : List Value) (M : sp_M) : Option (List Value × sp_M) := match M.2.2.2 a with
  | some (.inl (q, n, .inl f)) => if q = k ∧ sp_in j n = true then some (.int (f j.toNatClampNeg) :: st, M) else none
  | some _ => none
  | none => if k = 0 then (if a = G.1 then (if sp_in j G.2.1 = true then some (.int (G.2.2.1 j.toNatClampNeg) :: st, M) else none) else if a = G.2.2.2.1 then (if sp_in j 3 = true then some (.int (sp_f1 0 j.toNatClampNeg) :: st, M) else none) else if a = G.2.2.2.2 then (if sp_in j 3 = true then some (.int (sp_f1 1 j.toNatClampNeg) :: st, M) else none) else none) else none
def sp_ist (k : Nat) (nar : Int32 → Int32) (x j : Int32) (a : Nat) (st : List Value) (M : sp_M) : Option (List Value × sp_M) := match M.2.2.2 a with
  | some (.inl (q, n, .inl f)) => if q = k ∧ sp_in j n = true then some (st, sp_set M a (.inl (k, n, .inl (upd f j.toNatClampNeg (nar x))))) else none
  | _ => none
def sp_lld (j : Int32) (a : Nat) (st : List Value) (M : sp_M) : Option (List Value × sp_M) := match M.2.2.2 a with
  | some (.inl (q, n, .inr (.inl f))) => if q = 3 ∧ sp_in j n = true then some (.long (f j.toNatClampNeg) :: st, M) else none
  | _ => none
def sp_lst (x : Int64) (j : Int32) (a : Nat) (st : List Value) (M : sp_M) : Option (List Value × sp_M) := match M.2.2.2 a with
  | some (.inl (q, n, .inr (.inl f))) => if q = 3 ∧ sp_in j n = true then some (st, sp_set M a (.inl (3, n, .inr (.inl (vp_updL f j.toNatClampNeg x))))) else none
  | _ => none
def sp_ald (j : Int32) (a : Nat) (st : List Value) (M : sp_M) : Option (List Value × sp_M) := match M.2.2.2 a with
  | some (.inl (q, n, .inr (.inr (.inr (.inr f))))) => if (q = 4 ∨ q = 5) ∧ sp_in j n = true then some (va_rf (f j.toNatClampNeg) :: st, M) else none
  | _ => none
def sp_ast (v : Nat) (j : Int32) (a : Nat) (st : List Value) (M : sp_M) : Option (List Value × sp_M) := match M.2.2.2 a, M.2.2.2 v with
  | some (.inl (q, n, .inr (.inr (.inr (.inr f))))), some (.inr (3, _)) => if q = 4 ∧ sp_in j n = true then some (st, sp_set M a (.inl (4, n, .inr (.inr (.inr (.inr (va_up f j.toNatClampNeg (some v)))))))) else none
  | _, _ => none
def sp_len (G : sp_G) (a : Nat) (st : List Value) (M : sp_M) : Option (List Value × sp_M) := match M.2.2.2 a with
  | some (.inl (q, n, _)) => if q < 6 then some (.int (Int32.ofNat n) :: st, M) else none
  | some _ => none
  | none => if a = G.1 then some (.int (Int32.ofNat G.2.1) :: st, M) else none
def sp_df (ci : Nat) : List Value := (List.range (sp_N ci)).map (fun j => defaultValue (sp_ty ci j))
def sp_new (c idx : Nat) (st : List Value) (M : sp_M) : Option (List Value × sp_M) := match sp_fd sp_nwT c idx, M.1 with
  | some ci, some z => some (.ref z :: st, (some (z + 1), M.2.1 + 1, M.2.2.1 + sp_N ci, sp_up M.2.2.2 z (.inr (ci, sp_df ci))))
  | _, _ => none
def sp_nea (at' : ArrayType) (n : Int32) (st : List Value) (M : sp_M) : Option (List Value × sp_M) := match M.1 with
  | none => none
  | some z => if ¬ n < 0 ∧ n.toNatClampNeg ≤ 65536 then (match at' with
    | .int => some (.ref z :: st, (some (z + 1), M.2.1 + 1, M.2.2.1 + n.toNatClampNeg, sp_up M.2.2.2 z (.inl (0, n.toNatClampNeg, .inl (fun _ => 0)))))
    | .boolean => some (.ref z :: st, (some (z + 1), M.2.1 + 1, M.2.2.1 + n.toNatClampNeg, sp_up M.2.2.2 z (.inl (1, n.toNatClampNeg, .inl (fun _ => 0)))))
    | .char => some (.ref z :: st, (some (z + 1), M.2.1 + 1, M.2.2.1 + n.toNatClampNeg, sp_up M.2.2.2 z (.inl (2, n.toNatClampNeg, .inl (fun _ => 0)))))
    | .long => some (.ref z :: st, (some (z + 1), M.2.1 + 1, M.2.2.1 + n.toNatClampNeg, sp_up M.2.2.2 z (.inl (3, n.toNatClampNeg, .inr (.inl (fun _ => 0))))))
    | _ => none) else none
def sp_neq (c idx : Nat) (n : Int32) (st : List Value) (M : sp_M) : Option (List Value × sp_M) := match sp_fd sp_anT c idx, M.1 with
  | some _, some z => if ¬ n < 0 ∧ n.toNatClampNeg ≤ 65536 then some (.ref z :: st, (some (z + 1), M.2.1 + 1, M.2.2.1 + n.toNatClampNeg, sp_up M.2.2.2 z (.inl (4, n.toNatClampNeg, .inr (.inr (.inr (.inr (fun _ => none)))))))) else none
  | _, _ => none
/-- a row of rows: the outer one at z, the inner ones behind it -/
def sp_mup (h : sp_H) (z n k : Nat) : sp_H := fun q => if q = z then some (.inl (5, n, .inr (.inr (.inr (.inr (fun i => if i < n then some (z + 1 + i) else none)))))) else if z < q ∧ q < z + 1 + n then some (.inl (0, k, .inl (fun _ => 0))) else h q
def sp_nem (c idx : Nat) (k n : Int32) (st : List Value) (M : sp_M) : Option (List Value × sp_M) := match sp_fd sp_muT c idx, M.1 with
  | some _, some z => if ¬ n < 0 ∧ n.toNatClampNeg ≤ 65536 ∧ ¬ k < 0 ∧ k.toNatClampNeg ≤ 65536 then some (.ref z :: st, (some (z + 1 + n.toNatClampNeg), M.2.1 + 1 + n.toNatClampNeg, M.2.2.1 + n.toNatClampNeg + n.toNatClampNeg * k.toNatClampNeg, sp_mup M.2.2.2 z n.toNatClampNeg k.toNatClampNeg)) else none
  | _, _ => none
def sp_hp (G : sp_G) (c : Nat) (ini : Bool) (i : Instr) (len : Nat) (st : List Value) (M : sp_M) : Option (List Value × sp_M) := match i, len, st with
  | .getfield idx, 3, .ref a :: st => sp_getf c idx a st M
  | .putfield idx, 3, v :: .ref a :: st => sp_putf c ini idx v a st M
  | .getstatic idx, 3, st => (sp_fd sp_stT c idx).map (fun k => (.ref (if k = 0 then G.2.2.2.1 else G.2.2.2.2) :: st, M))
  | .arraylength, 1, .ref a :: st => sp_len G a st M
  | .iaload, 1, .int j :: .ref a :: st => sp_ild G 0 j a st M
  | .baload, 1, .int j :: .ref a :: st => sp_ild G 1 j a st M
  | .caload, 1, .int j :: .ref a :: st => sp_ild G 2 j a st M
  | .laload, 1, .int j :: .ref a :: st => sp_lld j a st M
  | .aaload, 1, .int j :: .ref a :: st => sp_ald j a st M
  | .iastore, 1, .int x :: .int j :: .ref a :: st => sp_ist 0 (fun x => x) x j a st M
  | .bastore, 1, .int x :: .int j :: .ref a :: st => sp_ist 1 (vp_nar .boolean) x j a st M
  | .castore, 1, .int x :: .int j :: .ref a :: st => sp_ist 2 (vp_nar .char) x j a st M
  | .lastore, 1, .long x :: .int j :: .ref a :: st => sp_lst x j a st M
  | .aastore, 1, .ref v :: .int j :: .ref a :: st => sp_ast v j a st M
  | .new idx, 3, st => sp_new c idx st M
  | .newarray t, 2, .int n :: st => sp_nea t n st M
  | .anewarray idx, 3, .int n :: st => sp_neq c idx n st M
  | .multianewarray idx 2, 4, .int k :: .int n :: st => sp_nem c idx k n st M
  | _, _, _ => none
end
section
/-! ===== the abstract machine's rows over cells are the machine's ===== -/
def sp_cx (p : Program) (s : State) (m : MethodId) (args : Array Value) (meth : Method) (c : Code) (cc : ByteArray) (D : va_G) (dA : Nat → ClassId) (A : Nat → Prop) (G : sp_G) (cn : Nat) (ini : Bool) : Prop :=
  p.tables.exec = Jvm.exec ∧ c.code = cc ∧ s.vm.findClass (sp_cls cn) = some m.cls ∧ (∀ w ∈ sp_AW, w.before args s = true) ∧ sp_ctx D dA A G s s.heap ∧ (ini = true → meth.name = "<init>") ∧ (∀ q, s.heap.size ≤ q → A q)
def sp_rm (R : Room) (cells slots : Nat) (M M' : sp_M) : Prop := ∀ dc ds, M'.2.1 = M.2.1 + dc → M'.2.2.1 = M.2.2.1 + ds → cells + dc ≤ R.cells ∧ slots + ds ≤ R.slots
theorem sp_fit_ty {v : Value} {ty : FieldType} {d : String} (hd : parseFieldDescriptor d = some ty) (h : sp_fit ty v = true) : parseFieldDescriptor d = some ty ∧ narrow ty v = v ∧ fits ty v = true := ⟨hd, sp_fit_ok h⟩
section SPC
variable {p : Program} {l : Launch} {e : Env} {R : Room} {s : State} {m : MethodId} {args : Array Value} {below : List Frame} {meth : Method} {c : Code} {H : Heap} {locs : List Loc} {cells slots : Nat} {Q : State → Prop}
variable {cc : ByteArray} {pc len : Nat} {ls : Array Slot} {st st' : List Value} {D : va_G} {dA : Nat → ClassId} {A : Nat → Prop} {G : sp_G} {cn : Nat} {ini : Bool} {M M' : sp_M}
/-- what may come next -/
abbrev sp_kk (p : Program) (l : Launch) (e : Env) (R : Room) (s : State) (m : MethodId) (args : Array Value) (below : List Frame) (meth : Method) (c : Code) (cells slots : Nat) (Q : State → Prop) (D : va_G) (dA : Nat → ClassId) (A : Nat → Prop) (M M' : sp_M) (g : JFrame) : Prop :=
  ∀ (H1 : Heap) (locs1 : List Loc) (dc ds : Nat), sp_rel D dA A M' H1 → va_S A s.heap H1 locs1 → M'.2.1 = M.2.1 + dc → M'.2.2.1 = M.2.2.1 + ds → W p l e R s m args below meth c H1 locs1 (cells + dc) (slots + ds) Q g
theorem sp_getf_sound (X : sp_cx p s m args meth c cc D dA A G cn ini) (hS : va_S A s.heap H locs) (hR : sp_rel D dA A M H) {idx a : Nat} (hdg : decode cc pc = .ok (.getfield idx, 3)) (h : sp_getf cn idx a st M = some (st', M'))
    (kk : sp_kk p l e R s m args below meth c cells slots Q D dA A M M' (F0 m (pc + 3) ls st')) : W p l e R s m args below meth c H locs cells slots Q (F0 m pc ls (.ref a :: st)) := by
  obtain ⟨hx, hb, hown, hts, hC, -, -⟩ := X
  unfold sp_getf at h
  split at h
  · rename_i ci k cj fs h1 h2
    split at h
    · rename_i hcj
      subst hcj
      obtain ⟨v, hv, hst⟩ := Option.map_eq_some_iff.mp h
      cases hst
      have hat := (hR.2 a _ h2).2
      have go : ∀ (hk : W p l e R s m args below meth c H locs cells slots Q (F0 m (pc + 3) ls (v :: st))), W p l e R s m args below meth c H locs cells slots Q (F0 m pc ls (.ref a :: st)) := by
        intro hk
        rcases Option.or_eq_some_iff.mp h1 with h1 | ⟨-, h1⟩
        · have hm := sp_fd_mem h1
          have hci := sp_fl_ok _ hm
          obtain ⟨c1, c2, c3, c4⟩ := sp_cl hci.1
          exact va_get hx hb hts c2 hown hC.1 (sp_at1 hat) 0 rfl c1 k hci.2 (hts _ (sp_fl_in _ (List.mem_map.mpr ⟨_, hm, rfl⟩))) (fun _ h => h) hv hdg hk
        · have hm := sp_fd_mem h1
          have hci := sp_fn_ok _ hm
          obtain ⟨c1, c2, c3, c4⟩ := sp_cl hci.1
          exact va_getN hx hb hts c2 hown hC.1 (sp_at1 hat) 0 rfl c1 k hci.2 (va_Nw.use rfl (hC.2.1 _ (sp_fn_in _ (List.mem_map.mpr ⟨_, hm, rfl⟩)) rfl)) (fun _ h => h) hv hdg hk
      exact go (kk H locs 0 0 hR hS rfl rfl)
    · cases h
  · cases h
theorem sp_putf_sound (X : sp_cx p s m args meth c cc D dA A G cn ini) (hS : va_S A s.heap H locs) (hR : sp_rel D dA A M H) {idx a : Nat} {v : Value} (hdg : decode cc pc = .ok (.putfield idx, 3)) (h : sp_putf cn ini idx v a st M = some (st', M'))
    (kk : sp_kk p l e R s m args below meth c cells slots Q D dA A M M' (F0 m (pc + 3) ls st')) : W p l e R s m args below meth c H locs cells slots Q (F0 m pc ls (v :: .ref a :: st)) := by
  obtain ⟨hx, hb, hown, hts, hC, hini, -⟩ := X
  unfold sp_putf at h
  split at h
  · rename_i ci k cj fs h1 h2
    split at h
    · rename_i hcj
      obtain ⟨hcj, hkl, hfit, hfin⟩ := hcj
      subst hcj
      cases h
      obtain ⟨hA, hat⟩ := hR.2 a _ h2
      have hm := sp_fd_mem h1
      have hci := sp_fl_ok _ hm
      obtain ⟨c1, c2, c3, c4⟩ := sp_cl hci.1
      have hlink := hts _ (sp_fl_in _ (List.mem_map.mpr ⟨_, hm, rfl⟩))
      obtain ⟨hn, hf⟩ := sp_fit_ok hfit
      cases hfi : (sp_Tf cj k).2.2.2 with
      | false =>
        exact sx_put hx hb hts c2 _ c3 c4 hown hC.1 hat c1 k hci.2 hlink (fun _ h => h) hfi (c3 k hci.2) hn hf hkl hA hS hdg fun H1 locs1 e1 e2 e3 hS1 => kk H1 locs1 0 0 (sp_rel_up hR hA e1 e2 e3) hS1 rfl rfl
      | true =>
        obtain ⟨hi, hcc⟩ := hfin hfi
        exact sx_putF hx hb hts c2 _ c3 c4 hown hC.1 hat c1 k hci.2 hlink (fun _ h => h) hfi (hini hi) (by rw [sp_Tf_own cj hci.1 k hci.2, hcc]) (c3 k hci.2) hn hf hkl hA hS hdg fun H1 locs1 e1 e2 e3 hS1 => kk H1 locs1 0 0 (sp_rel_up hR hA e1 e2 e3) hS1 rfl rfl
    · cases h
  · cases h
theorem sp_gets_sound (X : sp_cx p s m args meth c cc D dA A G cn ini) (hS : va_S A s.heap H locs) (hR : sp_rel D dA A M H) {idx : Nat} (hdg : decode cc pc = .ok (.getstatic idx, 3)) (h : (sp_fd sp_stT cn idx).map (fun k => (Value.ref (if k = 0 then G.2.2.2.1 else G.2.2.2.2) :: st, M)) = some (st', M'))
    (kk : sp_kk p l e R s m args below meth c cells slots Q D dA A M M' (F0 m (pc + 3) ls st')) : W p l e R s m args below meth c H locs cells slots Q (F0 m pc ls st) := by
  obtain ⟨hx, hb, hown, hts, hC, -, -⟩ := X
  obtain ⟨k, h1, h2⟩ := Option.map_eq_some_iff.mp h
  cases h2
  have hlink := hts _ (sp_st_in _ (List.mem_map.mpr ⟨_, sp_fd_mem h1, rfl⟩))
  by_cases hk : k = 0
  · subst hk
    exact va_gets hx hb hC.2.2.2.2.2.2.2.2.1 hS hown hlink (fun _ h => h) hdg (kk H locs 0 0 hR hS rfl rfl)
  · rw [if_neg hk] at kk
    unfold sp_stn at hlink
    simp only [hk, if_false] at hlink
    exact va_gets hx hb hC.2.2.2.2.2.2.2.2.2.1 hS hown hlink (fun _ h => h) hdg (kk H locs 0 0 hR hS rfl rfl)
theorem sp_ild_sound (X : sp_cx p s m args meth c cc D dA A G cn ini) (hS : va_S A s.heap H locs) (hR : sp_rel D dA A M H) {k : Nat} {j : Int32} {a : Nat} (hk : (k = 0 ∧ decode cc pc = .ok (.iaload, 1)) ∨ (k = 1 ∧ decode cc pc = .ok (.baload, 1)) ∨ (k = 2 ∧ decode cc pc = .ok (.caload, 1))) (h : sp_ild G k j a st M = some (st', M'))
    (kk : sp_kk p l e R s m args below meth c cells slots Q D dA A M M' (F0 m (pc + 1) ls st')) : W p l e R s m args below meth c H locs cells slots Q (F0 m pc ls (.int j :: .ref a :: st)) := by
  obtain ⟨hx, hb, hown, hts, hC, -, -⟩ := X
  unfold sp_ild at h
  split at h
  · rename_i q n f h2
    split at h
    · rename_i hq
      obtain ⟨hq, hin⟩ := hq
      subst hq
      cases h
      have hat := (hR.2 a _ h2).2
      rcases hk with ⟨rfl, hdg⟩ | ⟨rfl, hdg⟩ | ⟨rfl, hdg⟩
      · exact va_iald hx hb hC.1 (sp_at1 hat) 0 0 rfl rfl (sp_in_of hin) hdg (kk H locs 0 0 hR hS rfl rfl)
      · exact va_zald hx hb hC.1 (sp_at1 hat) 0 1 rfl rfl (sp_in_of hin) hdg (kk H locs 0 0 hR hS rfl rfl)
      · exact va_cald hx hb hC.1 (sp_at1 hat) 0 2 rfl rfl (sp_in_of hin) hdg (kk H locs 0 0 hR hS rfl rfl)
    · cases h
  · cases h
  · split at h
    · rename_i hk0
      subst hk0
      have hdg : decode cc pc = .ok (.iaload, 1) := by
        rcases hk with ⟨-, hdg⟩ | ⟨h0, -⟩ | ⟨h0, -⟩
        · exact hdg
        · cases h0
        · cases h0
      split at h
      · rename_i ha
        subst ha
        split at h
        · rename_i hin
          cases h
          exact va_sld hx hb hC.2.2.2.2.2.2.2.2.2.2.2.2.1 hC.2.2.2.2.2.2.2.2.2.2.2.2.2.1 hC.2.2.2.2.2.2.2.2.2.2.2.2.2.2 hS (sp_in_of hin) hdg (kk H locs 0 0 hR hS rfl rfl)
        · cases h
      · split at h
        · rename_i ha
          subst ha
          split at h
          · rename_i hin
            cases h
            exact va_ti hx hb hC.2.2.2.2.2.2.2.2.2.2.1 hS (sp_in_of hin) rfl hdg (kk H locs 0 0 hR hS rfl rfl)
          · cases h
        · split at h
          · rename_i ha
            subst ha
            split at h
            · rename_i hin
              cases h
              exact va_ti hx hb hC.2.2.2.2.2.2.2.2.2.2.2.1 hS (sp_in_of hin) rfl hdg (kk H locs 0 0 hR hS rfl rfl)
            · cases h
          · cases h
    · cases h
theorem sp_ist_sound0 (X : sp_cx p s m args meth c cc D dA A G cn ini) (hS : va_S A s.heap H locs) (hR : sp_rel D dA A M H) {x j : Int32} {a : Nat} (hdg : decode cc pc = .ok (.iastore, 1)) (h : sp_ist 0 (fun x => x) x j a st M = some (st', M'))
    (kk : sp_kk p l e R s m args below meth c cells slots Q D dA A M M' (F0 m (pc + 1) ls st')) : W p l e R s m args below meth c H locs cells slots Q (F0 m pc ls (.int x :: .int j :: .ref a :: st)) := by
  obtain ⟨hx, hb, hown, hts, hC, -, -⟩ := X
  unfold sp_ist at h
  split at h
  · rename_i q n f h2
    split at h
    · rename_i hq
      obtain ⟨hq, hin⟩ := hq
      subst hq
      cases h
      obtain ⟨hA, hat⟩ := hR.2 a _ h2
      exact sx_iast hx hb hC.1 0 hat hA hS rfl (sp_in_of hin) hdg fun H1 locs1 e1 e2 e3 hS1 => kk H1 locs1 0 0 (sp_rel_up hR hA e1 e2 e3) hS1 rfl rfl
    · cases h
  · cases h
theorem sp_ist_sound1 (X : sp_cx p s m args meth c cc D dA A G cn ini) (hS : va_S A s.heap H locs) (hR : sp_rel D dA A M H) {x j : Int32} {a : Nat} (hdg : decode cc pc = .ok (.bastore, 1)) (h : sp_ist 1 (vp_nar .boolean) x j a st M = some (st', M'))
    (kk : sp_kk p l e R s m args below meth c cells slots Q D dA A M M' (F0 m (pc + 1) ls st')) : W p l e R s m args below meth c H locs cells slots Q (F0 m pc ls (.int x :: .int j :: .ref a :: st)) := by
  obtain ⟨hx, hb, hown, hts, hC, -, -⟩ := X
  unfold sp_ist at h
  split at h
  · rename_i q n f h2
    split at h
    · rename_i hq
      obtain ⟨hq, hin⟩ := hq
      subst hq
      cases h
      obtain ⟨hA, hat⟩ := hR.2 a _ h2
      exact sx_zast hx hb hC.1 1 hat hA hS rfl (sp_in_of hin) hdg fun H1 locs1 e1 e2 e3 hS1 => kk H1 locs1 0 0 (sp_rel_up hR hA e1 e2 e3) hS1 rfl rfl
    · cases h
  · cases h
theorem sp_ist_sound2 (X : sp_cx p s m args meth c cc D dA A G cn ini) (hS : va_S A s.heap H locs) (hR : sp_rel D dA A M H) {x j : Int32} {a : Nat} (hdg : decode cc pc = .ok (.castore, 1)) (h : sp_ist 2 (vp_nar .char) x j a st M = some (st', M'))
    (kk : sp_kk p l e R s m args below meth c cells slots Q D dA A M M' (F0 m (pc + 1) ls st')) : W p l e R s m args below meth c H locs cells slots Q (F0 m pc ls (.int x :: .int j :: .ref a :: st)) := by
  obtain ⟨hx, hb, hown, hts, hC, -, -⟩ := X
  unfold sp_ist at h
  split at h
  · rename_i q n f h2
    split at h
    · rename_i hq
      obtain ⟨hq, hin⟩ := hq
      subst hq
      cases h
      obtain ⟨hA, hat⟩ := hR.2 a _ h2
      exact sx_cast hx hb hC.1 2 hat hA hS rfl (sp_in_of hin) hdg fun H1 locs1 e1 e2 e3 hS1 => kk H1 locs1 0 0 (sp_rel_up hR hA e1 e2 e3) hS1 rfl rfl
    · cases h
  · cases h
theorem sp_lld_sound (X : sp_cx p s m args meth c cc D dA A G cn ini) (hS : va_S A s.heap H locs) (hR : sp_rel D dA A M H) {j : Int32} {a : Nat} (hdg : decode cc pc = .ok (.laload, 1)) (h : sp_lld j a st M = some (st', M'))
    (kk : sp_kk p l e R s m args below meth c cells slots Q D dA A M M' (F0 m (pc + 1) ls st')) : W p l e R s m args below meth c H locs cells slots Q (F0 m pc ls (.int j :: .ref a :: st)) := by
  obtain ⟨hx, hb, hown, hts, hC, -, -⟩ := X
  unfold sp_lld at h
  split at h
  · rename_i q n f h2
    split at h
    · rename_i hq
      obtain ⟨hq, hin⟩ := hq
      subst hq
      cases h
      exact va_lald hx hb hC.1 (sp_at1 (hR.2 a _ h2).2) 0 3 rfl rfl (sp_in_of hin) hdg (kk H locs 0 0 hR hS rfl rfl)
    · cases h
  · cases h
theorem sp_lst_sound (X : sp_cx p s m args meth c cc D dA A G cn ini) (hS : va_S A s.heap H locs) (hR : sp_rel D dA A M H) {x : Int64} {j : Int32} {a : Nat} (hdg : decode cc pc = .ok (.lastore, 1)) (h : sp_lst x j a st M = some (st', M'))
    (kk : sp_kk p l e R s m args below meth c cells slots Q D dA A M M' (F0 m (pc + 1) ls st')) : W p l e R s m args below meth c H locs cells slots Q (F0 m pc ls (.long x :: .int j :: .ref a :: st)) := by
  obtain ⟨hx, hb, hown, hts, hC, -, -⟩ := X
  unfold sp_lst at h
  split at h
  · rename_i q n f h2
    split at h
    · rename_i hq
      obtain ⟨hq, hin⟩ := hq
      subst hq
      cases h
      obtain ⟨hA, hat⟩ := hR.2 a _ h2
      exact sx_last hx hb hC.1 3 hat hA hS rfl (sp_in_of hin) hdg fun H1 locs1 e1 e2 e3 hS1 => kk H1 locs1 0 0 (sp_rel_up hR hA e1 e2 e3) hS1 rfl rfl
    · cases h
  · cases h
theorem sp_ald_sound (X : sp_cx p s m args meth c cc D dA A G cn ini) (hS : va_S A s.heap H locs) (hR : sp_rel D dA A M H) {j : Int32} {a : Nat} (hdg : decode cc pc = .ok (.aaload, 1)) (h : sp_ald j a st M = some (st', M'))
    (kk : sp_kk p l e R s m args below meth c cells slots Q D dA A M M' (F0 m (pc + 1) ls st')) : W p l e R s m args below meth c H locs cells slots Q (F0 m pc ls (.int j :: .ref a :: st)) := by
  obtain ⟨hx, hb, hown, hts, hC, -, -⟩ := X
  unfold sp_ald at h
  split at h
  · rename_i q n f h2
    split at h
    · rename_i hq
      obtain ⟨hq, hin⟩ := hq
      cases h
      have hat := (hR.2 a _ h2).2
      rcases hq with rfl | rfl
      · exact sx_aald hx hb hC.1 4 hat rfl rfl (sp_in_of hin) hdg (kk H locs 0 0 hR hS rfl rfl)
      · exact sx_aald hx hb hC.1 5 hat rfl rfl (sp_in_of hin) hdg (kk H locs 0 0 hR hS rfl rfl)
    · cases h
  · cases h
theorem sp_ast_sound (X : sp_cx p s m args meth c cc D dA A G cn ini) (hS : va_S A s.heap H locs) (hR : sp_rel D dA A M H) {v : Nat} {j : Int32} {a : Nat} (hdg : decode cc pc = .ok (.aastore, 1)) (h : sp_ast v j a st M = some (st', M'))
    (kk : sp_kk p l e R s m args below meth c cells slots Q D dA A M M' (F0 m (pc + 1) ls st')) : W p l e R s m args below meth c H locs cells slots Q (F0 m pc ls (.ref v :: .int j :: .ref a :: st)) := by
  obtain ⟨hx, hb, hown, hts, hC, -, -⟩ := X
  unfold sp_ast at h
  split at h
  · rename_i q n f vs h2 h3
    split at h
    · rename_i hq
      obtain ⟨hq, hin⟩ := hq
      subst hq
      cases h
      obtain ⟨hA, hat⟩ := hR.2 a _ h2
      exact sx_aast (ci := 3) (r := (RX3, TX3, 15)) hx hb hC.1 4 hat hA hS rfl (hR.2 v _ h3).2 rfl (sp_in_of hin) hdg fun H1 locs1 e1 e2 e3 hS1 => kk H1 locs1 0 0 (sp_rel_up hR hA e1 e2 e3) hS1 rfl rfl
    · cases h
  · cases h
theorem sp_len_sound (X : sp_cx p s m args meth c cc D dA A G cn ini) (hS : va_S A s.heap H locs) (hR : sp_rel D dA A M H) {a : Nat} (hdg : decode cc pc = .ok (.arraylength, 1)) (h : sp_len G a st M = some (st', M'))
    (kk : sp_kk p l e R s m args below meth c cells slots Q D dA A M M' (F0 m (pc + 1) ls st')) : W p l e R s m args below meth c H locs cells slots Q (F0 m pc ls (.ref a :: st)) := by
  obtain ⟨hx, hb, hown, hts, hC, -, -⟩ := X
  unfold sp_len at h
  split at h
  · rename_i q n x h2
    split at h
    · rename_i hq
      cases h
      have hat := (hR.2 a _ h2).2
      have ht : ∃ ty, (sp_tys dA)[q]? = some (dA q, ty) := by
        match q, hq with
        | 0, _ => exact ⟨_, rfl⟩
        | 1, _ => exact ⟨_, rfl⟩
        | 2, _ => exact ⟨_, rfl⟩
        | 3, _ => exact ⟨_, rfl⟩
        | 4, _ => exact ⟨_, rfl⟩
        | 5, _ => exact ⟨_, rfl⟩
      obtain ⟨ty, ht⟩ := ht
      exact va_alen hx hb hC.1 (sp_at1 hat) 0 q rfl ht rfl hdg (kk H locs 0 0 hR hS rfl rfl)
    · cases h
  · cases h
  · split at h
    · rename_i ha
      subst ha
      cases h
      exact va_slen hx hb hC.2.2.2.2.2.2.2.2.2.2.2.2.1 hC.2.2.2.2.2.2.2.2.2.2.2.2.2.1 hC.2.2.2.2.2.2.2.2.2.2.2.2.2.2 hS hdg (kk H locs 0 0 hR hS rfl rfl)
    · cases h
theorem sp_df_ok (ci : Nat) : ∀ j, j < sp_N ci → defaultValue (sp_ty ci j) = vp_V (sp_df ci) j := by
  intro j hj
  unfold vp_V sp_df
  rw [List.getD_eq_getElem?_getD, List.getElem?_map, List.getElem?_range hj]
  rfl
theorem sp_new_sound (X : sp_cx p s m args meth c cc D dA A G cn ini) (hS : va_S A s.heap H locs) (hR : sp_rel D dA A M H) {idx : Nat} (hdg : decode cc pc = .ok (.new idx, 3)) (h : sp_new cn idx st M = some (st', M')) (hrm : sp_rm R cells slots M M')
    (kk : sp_kk p l e R s m args below meth c cells slots Q D dA A M M' (F0 m (pc + 3) ls st')) : W p l e R s m args below meth c H locs cells slots Q (F0 m pc ls st) := by
  obtain ⟨hx, hb, hown, hts, hC, -, hA⟩ := X
  unfold sp_new at h
  split at h
  · rename_i ci z h1 h2
    cases h
    have hm := sp_fd_mem h1
    have hci := sp_nw_ok _ hm
    obtain ⟨c1, c2, c3, c4⟩ := sp_cl hci
    obtain ⟨r1, r2⟩ := hrm 1 (sp_N ci) rfl rfl
    have hz := hR.1 z h2
    refine sx_new hx hb hts c2 _ c3 hown (hts _ (sp_nw_in _ (List.mem_map.mpr ⟨_, hm, rfl⟩))) (hts _ (sp_nw_i1 _ (List.mem_map.mpr ⟨_, hm, rfl⟩))) (hts _ (sp_nw_i2 _ (List.mem_map.mpr ⟨_, hm, rfl⟩))) hC.1 hS c1 (sp_df_ok ci) r1 r2 hdg fun H1 e1 e2 e3 hS1 => ?_
    rw [hz] at e1 ⊢
    exact kk H1 locs 1 (sp_N ci) (sp_rel_new (e := .inr (ci, sp_df ci)) hR h2 (hA z (by rw [← hz]; exact hS.1)) e1 e2 e3 _ _) hS1 rfl rfl
  · cases h
theorem sp_nea_sound (X : sp_cx p s m args meth c cc D dA A G cn ini) (hS : va_S A s.heap H locs) (hR : sp_rel D dA A M H) {t : ArrayType} {n : Int32} (hdg : decode cc pc = .ok (.newarray t, 2)) (h : sp_nea t n st M = some (st', M')) (hrm : sp_rm R cells slots M M')
    (kk : sp_kk p l e R s m args below meth c cells slots Q D dA A M M' (F0 m (pc + 2) ls st')) : W p l e R s m args below meth c H locs cells slots Q (F0 m pc ls (.int n :: st)) := by
  obtain ⟨hx, hb, hown, hts, hC, -, hA⟩ := X
  unfold sp_nea at h
  split at h
  · cases h
  · rename_i z h2
    have hz := hR.1 z h2
    have hAz := hA z (by rw [← hz]; exact hS.1)
    split at h
    · rename_i hn
      obtain ⟨hn, hn2⟩ := hn
      split at h
      · cases h
        obtain ⟨r1, r2⟩ := hrm 1 n.toNatClampNeg rfl rfl
        refine sx_newa (D := D) (cl := vwCl) hx hb (ty := .int) rfl (hts _ (sp_arr_in _ (by simp))) (hC.1.2 0 _ rfl).2 hS (a0 := (n.toNatClampNeg, .inl (fun _ => 0))) (vp_cell_i _ _ _) hn rfl (Nat.le_trans (Nat.mul_le_mul_right _ hn2) (by decide)) r1 r2 hdg fun H1 e1 e2 e3 hS1 => ?_
        rw [hz] at e1 ⊢
        exact kk H1 locs 1 _ (sp_rel_new (e := .inl (0, n.toNatClampNeg, .inl (fun _ => 0))) hR h2 hAz e1 e2 e3 _ _) hS1 rfl rfl
      · cases h
        obtain ⟨r1, r2⟩ := hrm 1 n.toNatClampNeg rfl rfl
        refine sx_newa (D := D) (cl := vwCl) hx hb (ty := .boolean) rfl (hts _ (sp_arr_in _ (by simp))) (hC.1.2 1 _ rfl).2 hS (a0 := (n.toNatClampNeg, .inl (fun _ => 0))) (vp_cell_i _ _ _) hn rfl (Nat.le_trans (Nat.mul_le_mul_right _ hn2) (by decide)) r1 r2 hdg fun H1 e1 e2 e3 hS1 => ?_
        rw [hz] at e1 ⊢
        exact kk H1 locs 1 _ (sp_rel_new (e := .inl (1, n.toNatClampNeg, .inl (fun _ => 0))) hR h2 hAz e1 e2 e3 _ _) hS1 rfl rfl
      · cases h
        obtain ⟨r1, r2⟩ := hrm 1 n.toNatClampNeg rfl rfl
        refine sx_newa (D := D) (cl := vwCl) hx hb (ty := .char) rfl (hts _ (sp_arr_in _ (by simp))) (hC.1.2 2 _ rfl).2 hS (a0 := (n.toNatClampNeg, .inl (fun _ => 0))) (vp_cell_i _ _ _) hn rfl (Nat.le_trans (Nat.mul_le_mul_right _ hn2) (by decide)) r1 r2 hdg fun H1 e1 e2 e3 hS1 => ?_
        rw [hz] at e1 ⊢
        exact kk H1 locs 1 _ (sp_rel_new (e := .inl (2, n.toNatClampNeg, .inl (fun _ => 0))) hR h2 hAz e1 e2 e3 _ _) hS1 rfl rfl
      · cases h
        obtain ⟨r1, r2⟩ := hrm 1 n.toNatClampNeg rfl rfl
        refine sx_newa (D := D) (cl := vwCl) hx hb (ty := .long) rfl (hts _ (sp_arr_in _ (by simp))) (hC.1.2 3 _ rfl).2 hS (a0 := (n.toNatClampNeg, .inr (.inl (fun _ => 0)))) (vp_cell_l _ _ _) hn rfl (Nat.le_trans (Nat.mul_le_mul_right _ hn2) (by decide)) r1 r2 hdg fun H1 e1 e2 e3 hS1 => ?_
        rw [hz] at e1 ⊢
        exact kk H1 locs 1 _ (sp_rel_new (e := .inl (3, n.toNatClampNeg, .inr (.inl (fun _ => 0)))) hR h2 hAz e1 e2 e3 _ _) hS1 rfl rfl
      · cases h
    · cases h
theorem sp_neq_sound (X : sp_cx p s m args meth c cc D dA A G cn ini) (hS : va_S A s.heap H locs) (hR : sp_rel D dA A M H) {idx : Nat} {n : Int32} (hdg : decode cc pc = .ok (.anewarray idx, 3)) (h : sp_neq cn idx n st M = some (st', M')) (hrm : sp_rm R cells slots M M')
    (kk : sp_kk p l e R s m args below meth c cells slots Q D dA A M M' (F0 m (pc + 3) ls st')) : W p l e R s m args below meth c H locs cells slots Q (F0 m pc ls (.int n :: st)) := by
  obtain ⟨hx, hb, hown, hts, hC, -, hA⟩ := X
  unfold sp_neq at h
  split at h
  · rename_i z h1 h2
    split at h
    · rename_i hn
      obtain ⟨hn, hn2⟩ := hn
      cases h
      have hz := hR.1 z h2
      have hAz := hA z (by rw [← hz]; exact hS.1)
      have hm := sp_fd_mem h1
      obtain ⟨r1, r2⟩ := hrm 1 n.toNatClampNeg rfl rfl
      obtain ⟨-, -, -, -, -, hfA⟩ := (hC.1.2 4 _ rfl).2
      refine sx_anew (D := D) (cl := vwCl) hx hb hown (hts _ (sp_an_in _ (List.mem_map.mpr ⟨_, hm, rfl⟩))) hC.2.2.1 hfA hS hn rfl (Nat.le_trans (Nat.mul_le_mul_right _ hn2) (by decide)) r1 r2 hdg fun H1 e1 e2 e3 hS1 => ?_
      rw [hz] at e1 ⊢
      exact kk H1 locs 1 _ (sp_rel_new (e := .inl (4, n.toNatClampNeg, .inr (.inr (.inr (.inr (fun _ => none)))))) hR h2 hAz e1 e2 e3 _ _) hS1 rfl rfl
    · cases h
  · cases h
theorem sp_nem_sound (X : sp_cx p s m args meth c cc D dA A G cn ini) (hS : va_S A s.heap H locs) (hR : sp_rel D dA A M H) {idx : Nat} {n k : Int32} (hdg : decode cc pc = .ok (.multianewarray idx 2, 4)) (h : sp_nem cn idx k n st M = some (st', M')) (hrm : sp_rm R cells slots M M')
    (kk : sp_kk p l e R s m args below meth c cells slots Q D dA A M M' (F0 m (pc + 4) ls st')) : W p l e R s m args below meth c H locs cells slots Q (F0 m pc ls (.int k :: .int n :: st)) := by
  obtain ⟨hx, hb, hown, hts, hC, -, hA⟩ := X
  unfold sp_nem at h
  split at h
  · rename_i z h1 h2
    split at h
    · rename_i hn
      obtain ⟨hn, hn2, hk, hk2⟩ := hn
      cases h
      have hz := hR.1 z h2
      have hm := sp_fd_mem h1
      obtain ⟨r1, r2⟩ := hrm (1 + n.toNatClampNeg) (n.toNatClampNeg + n.toNatClampNeg * k.toNatClampNeg) (by simp [Nat.add_assoc]) (by simp [Nat.add_assoc])
      refine sx_mna (D := D) (cl := vwCl) hx hb hown (hts _ (sp_mu_in _ (List.mem_map.mpr ⟨_, hm, rfl⟩))) hC.2.2.2.1 (hts _ (sp_arr_in _ (by simp))) (hC.1.2 0 _ rfl).2 (hC.1.2 5 _ rfl).2 hS hn hk rfl rfl (Nat.le_trans (Nat.mul_le_mul_right _ hn2) (by decide)) (Nat.le_trans (Nat.mul_le_mul_right _ hk2) (by decide)) r1 r2 hdg fun H1 e1 e2 e3 e4 hS1 => ?_
      rw [hz] at e1 e2 e3 ⊢
      have hrel : sp_rel D dA A (some (z + 1 + n.toNatClampNeg), M.2.1 + 1 + n.toNatClampNeg, M.2.2.1 + n.toNatClampNeg + n.toNatClampNeg * k.toNatClampNeg, sp_mup M.2.2.2 z n.toNatClampNeg k.toNatClampNeg) H1 := by
        refine ⟨fun z' hz' => by cases hz'; exact e3, fun b e' hb => ?_⟩
        have hb : sp_mup M.2.2.2 z n.toNatClampNeg k.toNatClampNeg b = some e' := hb
        unfold sp_mup at hb
        have hS0 := hS.1
        split at hb
        · rename_i hbz
          cases hb
          subst hbz
          exact ⟨hA _ (by omega), e1⟩
        · split at hb
          · rename_i hbz
            cases hb
            have := e2 (b - (z + 1)) (by omega)
            rw [show z + 1 + (b - (z + 1)) = b by omega] at this
            exact ⟨hA _ (by omega), this⟩
          · obtain ⟨h3, h4⟩ := hR.2 b e' hb
            exact ⟨h3, h4.kept (e4 b h4.lt)⟩
      have hgo := kk H1 locs (1 + n.toNatClampNeg) (n.toNatClampNeg + n.toNatClampNeg * k.toNatClampNeg) hrel hS1 (by simp [Nat.add_assoc]) (by simp [Nat.add_assoc])
      simpa [Nat.add_assoc] using hgo
    · cases h
  · cases h
set_option maxHeartbeats 1000000 in
theorem sp_hp_sound (X : sp_cx p s m args meth c cc D dA A G cn ini) (hS : va_S A s.heap H locs) (hR : sp_rel D dA A M H) {i : Instr} (hdg : decode cc pc = .ok (i, len)) (h : sp_hp G cn ini i len st M = some (st', M')) (hrm : sp_rm R cells slots M M')
    (kk : sp_kk p l e R s m args below meth c cells slots Q D dA A M M' (F0 m (pc + len) ls st')) : W p l e R s m args below meth c H locs cells slots Q (F0 m pc ls st) := by
  unfold sp_hp at h
  split at h
  · exact sp_getf_sound X hS hR hdg h kk
  · exact sp_putf_sound X hS hR hdg h kk
  · exact sp_gets_sound X hS hR hdg h kk
  · exact sp_len_sound X hS hR hdg h kk
  · exact sp_ild_sound X hS hR (Or.inl ⟨rfl, hdg⟩) h kk
  · exact sp_ild_sound X hS hR (Or.inr (Or.inl ⟨rfl, hdg⟩)) h kk
  · exact sp_ild_sound X hS hR (Or.inr (Or.inr ⟨rfl, hdg⟩)) h kk
  · exact sp_lld_sound X hS hR hdg h kk
  · exact sp_ald_sound X hS hR hdg h kk
  · exact sp_ist_sound0 X hS hR hdg h kk
  · exact sp_ist_sound1 X hS hR hdg h kk
  · exact sp_ist_sound2 X hS hR hdg h kk
  · exact sp_lst_sound X hS hR hdg h kk
  · exact sp_ast_sound X hS hR hdg h kk
  · exact sp_new_sound X hS hR hdg h hrm kk
  · exact sp_nea_sound X hS hR hdg h hrm kk
  · exact sp_neq_sound X hS hR hdg h hrm kk
  · exact sp_nem_sound X hS hR hdg h hrm kk
  · cases h
/-- the counts only grow -/
theorem sp_hp_mono {i : Instr} (h : sp_hp G cn ini i len st M = some (st', M')) : M.2.1 ≤ M'.2.1 ∧ M.2.2.1 ≤ M'.2.2.1 := by
  have hs : ∀ (M : sp_M) a e, M.2.1 ≤ (sp_set M a e).2.1 ∧ M.2.2.1 ≤ (sp_set M a e).2.2.1 := fun M a e => ⟨Nat.le_refl _, Nat.le_refl _⟩
  unfold sp_hp at h
  split at h
  · unfold sp_getf at h; split at h
    · split at h
      · obtain ⟨v, -, hv⟩ := Option.map_eq_some_iff.mp h; cases hv; exact ⟨Nat.le_refl _, Nat.le_refl _⟩
      · cases h
    · cases h
  · unfold sp_putf at h; split at h
    · split at h
      · cases h; exact hs _ _ _
      · cases h
    · cases h
  · obtain ⟨v, -, hv⟩ := Option.map_eq_some_iff.mp h; cases hv; exact ⟨Nat.le_refl _, Nat.le_refl _⟩
  · unfold sp_len at h; repeat' split at h
    all_goals first | (cases h; done) | (cases h; exact ⟨Nat.le_refl _, Nat.le_refl _⟩)
  · unfold sp_ild at h; repeat' split at h
    all_goals first | (cases h; done) | (cases h; exact ⟨Nat.le_refl _, Nat.le_refl _⟩)
  · unfold sp_ild at h; repeat' split at h
    all_goals first | (cases h; done) | (cases h; exact ⟨Nat.le_refl _, Nat.le_refl _⟩)
  · unfold sp_ild at h; repeat' split at h
    all_goals first | (cases h; done) | (cases h; exact ⟨Nat.le_refl _, Nat.le_refl _⟩)
  · unfold sp_lld at h; repeat' split at h
    all_goals first | (cases h; done) | (cases h; exact ⟨Nat.le_refl _, Nat.le_refl _⟩)
  · unfold sp_ald at h; repeat' split at h
    all_goals first | (cases h; done) | (cases h; exact ⟨Nat.le_refl _, Nat.le_refl _⟩)
  · unfold sp_ist at h; repeat' split at h
    all_goals first | (cases h; done) | (cases h; exact hs _ _ _)
  · unfold sp_ist at h; repeat' split at h
    all_goals first | (cases h; done) | (cases h; exact hs _ _ _)
  · unfold sp_ist at h; repeat' split at h
    all_goals first | (cases h; done) | (cases h; exact hs _ _ _)
  · unfold sp_lst at h; repeat' split at h
    all_goals first | (cases h; done) | (cases h; exact hs _ _ _)
  · unfold sp_ast at h; repeat' split at h
    all_goals first | (cases h; done) | (cases h; exact hs _ _ _)
  · unfold sp_new at h; repeat' split at h
    all_goals first | (cases h; done) | (cases h; exact ⟨Nat.le_add_right _ _, Nat.le_add_right _ _⟩)
  · unfold sp_nea at h; repeat' split at h
    all_goals first | (cases h; done) | (cases h; exact ⟨Nat.le_add_right _ _, Nat.le_add_right _ _⟩)
  · unfold sp_neq at h; repeat' split at h
    all_goals first | (cases h; done) | (cases h; exact ⟨Nat.le_add_right _ _, Nat.le_add_right _ _⟩)
  · unfold sp_nem at h; repeat' split at h
    all_goals first | (cases h; done) | (cases h; exact ⟨by simp [Nat.add_assoc], by simp [Nat.add_assoc]⟩)
  · cases h
end SPC
end
section
/-! ===== the abstract machine whole ===== -/
def sp_ctT : List (Nat × Nat × String) := [(7, 13, "java/lang/IllegalArgumentException"), (7, 15, "java/lang/IllegalStateException"), (7, 21, "java/lang/IndexOutOfBoundsException")]
theorem sp_ct_in : ∀ w ∈ sp_ctT.map (fun q => Cond.classLink (sp_cls q.1) q.2.1 q.2.2), w ∈ sp_AW := sp_pick _ [608, 609, 642] (by decide +kernel) (by decide +kernel)
theorem sp_ct_ex : ∀ q ∈ sp_ctT, q.2.2 ∈ sp_ex := by decide +kernel
theorem sp_ct_cast : ∀ E ∈ sp_ex, Cond.castable E E ∈ lw_tbl := by decide +kernel
theorem sp_hh_ok : ∀ e ∈ sp_T0, ∀ q ∈ e.2.2.2.2.1, e.2.2.2.2.2.1 = 7 ∧ (sp_fd sp_ctT 7 q.2.2.2).isSome = true ∧ q.2.2.2 ≠ 0 := by decide +kernel
theorem sp_th_ex : ∀ q ∈ sp_thT, q.2.2.1 ∈ sp_ex := by decide +kernel
def sp_cst (c : Nat) (i : Instr) (len : Nat) (st : List Value) : Option (List Value) := match i, len with
  | .ldc2_w idx, 3 => match sp_fd sp_clT c idx with
    | some v => some (.long v :: st)
    | none => (sp_fd sp_cdT c idx).map (fun v => .double v :: st)
  | .ldc_w idx, 3 => (sp_fd sp_cfT c idx).map (fun v => .float v :: st)
  | _, _ => none
def sp_retn (ret : Option FieldType) (i : Instr) (len : Nat) (st : List Value) : Option (Option Value) := match i, len, st with
  | .ireturn, 1, [.int x] => if ret = some .int ∨ (ret = some .boolean ∧ (x = 0 ∨ x = 1)) then some (some (.int x)) else none
  | .lreturn, 1, [.long x] => if ret = some .long then some (some (.long x)) else none
  | .freturn, 1, [.float x] => if ret = some .float then some (some (.float x)) else none
  | .dreturn, 1, [.double x] => if ret = some .double then some (some (.double x)) else none
  | .return_, 1, [] => if ret = none then some none else none
  | _, _, _ => none
def sp_sum (st : List Value) : Nat := (st.map fun v => v.category).sum
/-- a call: what it comes to at once, or the method, its arguments, the stack below -/
abbrev sp_C : Type := (List Value × sp_M) ⊕ (Nat × List Value × List Value)
def sp_isC (M : sp_M) (b k : Nat) : Bool := match M.2.2.2 b with
  | some (.inr (cj, _)) => decide (cj = k)
  | _ => false
def sp_recv (y : Nat) (e : sp_E) (st : List Value) (M : sp_M) (virt : Bool) : Option sp_C := match st.drop e.2.2.2.2.2.2.1 with
  | .ref b :: rest => if (virt = true → sp_isC M b e.2.2.2.2.2.1 = true) ∧ sp_sum rest ≤ 8 ∧ (sp_ea (.ref b :: (st.take e.2.2.2.2.2.2.1).reverse)).length ≤ e.2.2.1 ∧ e.2.2.2.2.2.2.1 ≤ st.length then some (.inr (y, .ref b :: (st.take e.2.2.2.2.2.2.1).reverse, rest)) else none
  | _ => none
def sp_fits (e e' : sp_E) : Bool := decide (e'.2.2.2.2.2.2.2.1 + 1 ≤ e.2.2.2.2.2.2.2.1 ∧ 8 + (e'.2.2.1 + 11) + e'.2.2.2.2.2.2.2.2.1 ≤ e.2.2.2.2.2.2.2.2.1)
def sp_calV (e : sp_E) (idx : Nat) (st : List Value) (M : sp_M) : Option sp_C := match sp_fd sp_caT e.2.2.2.2.2.1 idx with
  | none => none
  | some y => match sp_T0[y]? with
    | none => none
    | some e' => if e'.2.2.2.2.2.2.2.2.2 = 0 ∧ sp_fits e e' = true then sp_recv y e' st M true else none
def sp_calI (e : sp_E) (idx : Nat) (st : List Value) (M : sp_M) : Option sp_C := match sp_fd sp_coT e.2.2.2.2.2.1 idx with
  | some _ => (match st with
    | .ref _ :: rest => if sp_sum rest ≤ 8 ∧ 1 ≤ e.2.2.2.2.2.2.2.1 ∧ 24 ≤ e.2.2.2.2.2.2.2.2.1 then some (.inl (rest, M)) else none
    | _ => none)
  | none => match (sp_fd sp_caT e.2.2.2.2.2.1 idx).or (sp_fd sp_cnT e.2.2.2.2.2.1 idx) with
    | none => none
    | some y => match sp_T0[y]? with
      | none => none
      | some e' => if e'.2.2.2.2.2.2.2.2.2 = 2 ∧ sp_fits e e' = true ∧ e'.2.2.2.2.1 = [] then sp_recv y e' st M false else none
def sp_calS (e : sp_E) (idx : Nat) (st : List Value) (M : sp_M) : Option sp_C := match sp_fd sp_cjT e.2.2.2.2.2.1 idx with
  | some k => (match k, st with
    | 0, .double x :: rest => if Op.cmpValue (FP.dcmp x x) CmpOp.l = 0 ∧ sp_sum rest ≤ 8 ∧ 4 ≤ e.2.2.2.2.2.2.2.1 ∧ 90 ≤ e.2.2.2.2.2.2.2.2.1 then some (.inl (.long x.toInt64 :: rest, (none, M.2.1, M.2.2.1, M.2.2.2))) else none
    | 1, .float x :: rest => if Op.cmpValue (FP.fcmp x x) CmpOp.l = 0 ∧ sp_sum rest ≤ 8 ∧ 4 ≤ e.2.2.2.2.2.2.2.1 ∧ 90 ≤ e.2.2.2.2.2.2.2.2.1 then some (.inl (.int x.toInt32 :: rest, (none, M.2.1, M.2.2.1, M.2.2.2))) else none
    | _, _ => none)
  | none => match sp_fd sp_caT e.2.2.2.2.2.1 idx with
    | none => none
    | some y => match sp_T0[y]? with
      | none => none
      | some e' => if e'.2.2.2.2.2.2.2.2.2 = 1 ∧ e'.2.2.2.2.2.1 = e.2.2.2.2.2.1 ∧ sp_fits e e' = true ∧ sp_sum (st.drop e'.2.2.2.2.2.2.1) ≤ 8 ∧ (sp_ea (st.take e'.2.2.2.2.2.2.1).reverse).length ≤ e'.2.2.1 ∧ e'.2.2.2.2.2.2.1 ≤ st.length then some (.inr (y, (st.take e'.2.2.2.2.2.2.1).reverse, st.drop e'.2.2.2.2.2.2.1)) else none
def sp_call (e : sp_E) (i : Instr) (len : Nat) (st : List Value) (M : sp_M) : Option sp_C := match i, len with
  | .invokevirtual idx, 3 => sp_calV e idx st M
  | .invokespecial idx, 3 => sp_calI e idx st M
  | .invokestatic idx, 3 => sp_calS e idx st M
  | _, _ => none
def sp_gr : Instr → Nat
  | .iload _ | .iload_n _ | .lload _ | .lload_n _ | .fload _ | .fload_n _ | .dload _ | .dload_n _ | .aload _ | .aload_n _ => 0
  | .istore _ | .istore_n _ | .lstore _ | .lstore_n _ | .fstore _ | .fstore_n _ | .dstore _ | .dstore_n _ | .astore _ | .astore_n _ | .iinc _ _ => 0
  | .ldc_w _ | .ldc2_w _ => 2
  | .goto _ | .ifCond _ _ | .if_icmp _ _ | .ifnull _ | .tableswitch _ _ _ _ | .lookupswitch _ _ => 3
  | .getfield _ | .putfield _ | .getstatic _ | .arraylength | .iaload | .baload | .caload | .laload | .aaload | .iastore | .bastore | .castore | .lastore | .aastore | .new _ | .newarray _ | .anewarray _ | .multianewarray _ _ => 4
  | .ireturn | .lreturn | .freturn | .dreturn | .return_ => 5
  | .invokevirtual _ | .invokespecial _ | .invokestatic _ => 6
  | _ => 1
def sp_cov (q : Nat × Nat × Nat × Nat) (pc : Nat) : Bool := decide (q.1 ≤ pc) && decide (pc < q.2.1)
/-- the handler that takes what is thrown at a place: where it begins -/
def sp_hdl (hh : List (Nat × Nat × Nat × Nat)) (pc : Nat) (E : String) : Option Nat := (hh.find? (fun q => sp_cov q pc && decide (sp_fd sp_ctT 7 q.2.2.2 = some E))).map (fun q => q.2.2.1)
def sp_hst (cc : ByteArray) (pc : Nat) : Option (Nat × Nat) := match decode cc pc with
  | .ok (.astore_n k, 1) => some ((k : Nat), 1)
  | .ok (.astore k, 2) => some (k, 2)
  | _ => none
def sp_clr (L : sp_L) (k : Nat) : sp_L := (sp_fix L k).set k none
def sp_ml (y : Nat) : Nat := match sp_T0[y]? with
  | some e => e.2.2.1
  | none => 0
def sp_kd (y : Nat) : Nat := match sp_T0[y]? with
  | some e => e.2.2.2.2.2.2.2.2.2
  | none => 0
def sp_exec (G : sp_G) : Nat → Nat → Nat → sp_L → List Value → sp_M → Option (sp_R × sp_M)
  | 0, _, _, _, _, _ => none
  | n + 1, y, pc, L, st, M => match sp_T[y]? with
    | none => none
    | some e => match sp_fd sp_thT y pc with
      | some q => if sp_sum st ≤ 8 then some (.inr q.1, (none, M.2.1 + 1, M.2.2.1 + 6, M.2.2.2)) else none
      | none => match decode e.2.1 pc with
        | .error _ => none
        | .ok (i, len) => match sp_gr i with
          | 0 => (match sp_loc i len L st with
            | none => none
            | some (L', st') => sp_exec G n y (pc + len) L' st' M)
          | 1 => (match sp_stk i len st with
            | none => none
            | some st' => sp_exec G n y (pc + len) L st' M)
          | 2 => (match sp_cst e.2.2.2.2.2.1 i len st with
            | none => none
            | some st' => sp_exec G n y (pc + len) L st' M)
          | 3 => (match sp_jmp i len pc st with
            | none => none
            | some (pc', st') => sp_exec G n y pc' L st' M)
          | 4 => (match sp_hp G e.2.2.2.2.2.1 (decide (e.2.2.2.2.2.2.2.2.2 = 2)) i len st M with
            | none => none
            | some (st', M') => sp_exec G n y (pc + len) L st' M')
          | 5 => (match sp_retn e.2.2.2.1 i len st with
            | none => none
            | some v => some (.inl v, M))
          | 6 => (match sp_call e i len st M with
            | none => none
            | some (.inl (st', M')) => sp_exec G n y (pc + 3) L st' M'
            | some (.inr (y', as, rest)) => match sp_exec G n y' 0 (sp_ent (sp_ml y') as) [] M with
              | none => none
              | some (.inl v, M1) => sp_exec G n y (pc + 3) L (v.toList ++ rest) M1
              | some (.inr E, M1) => if E ∈ sp_ex ∧ sp_kd y' ≠ 2 then (match sp_hdl e.2.2.2.2.1 pc E with
                | none => some (.inr E, M1)
                | some hp => match sp_hst e.2.1 hp with
                  | none => none
                  | some (k, ln) => if k < L.length then sp_exec G n y (hp + ln) (sp_clr L k) [] M1 else none) else none)
          | _ => none
theorem sp_call_mono {e : sp_E} {i : Instr} {len : Nat} {st st' : List Value} {M M' : sp_M} (h : sp_call e i len st M = some (.inl (st', M'))) : M'.2.1 = M.2.1 ∧ M'.2.2.1 = M.2.2.1 := by
  unfold sp_call sp_calV sp_calI sp_calS sp_recv at h
  repeat' split at h
  all_goals first | (cases h; done) | (cases h; exact ⟨rfl, rfl⟩)
theorem sp_exec_mono (G : sp_G) : ∀ (n y pc : Nat) (L : sp_L) (st : List Value) (M : sp_M) (r : sp_R) (M' : sp_M), sp_exec G n y pc L st M = some (r, M') → M.2.1 ≤ M'.2.1 ∧ M.2.2.1 ≤ M'.2.2.1 := by
  intro n
  induction n with
  | zero => intro y pc L st M r M' h; cases h
  | succ n ih =>
    intro y pc L st M r M' h
    unfold sp_exec at h
    split at h
    · cases h
    · split at h
      · split at h
        · cases h; exact ⟨Nat.le_add_right _ _, Nat.le_add_right _ _⟩
        · cases h
      · split at h
        · cases h
        · split at h
          · split at h
            · cases h
            · exact ih _ _ _ _ _ _ _ h
          · split at h
            · cases h
            · exact ih _ _ _ _ _ _ _ h
          · split at h
            · cases h
            · exact ih _ _ _ _ _ _ _ h
          · split at h
            · cases h
            · exact ih _ _ _ _ _ _ _ h
          · split at h
            · cases h
            · rename_i hh
              have h1 := sp_hp_mono hh
              have h2 := ih _ _ _ _ _ _ _ h
              exact ⟨Nat.le_trans h1.1 h2.1, Nat.le_trans h1.2 h2.2⟩
          · split at h
            · cases h
            · cases h; exact ⟨Nat.le_refl _, Nat.le_refl _⟩
          · split at h
            · cases h
            · rename_i hh
              have h1 := sp_call_mono hh
              have h2 := ih _ _ _ _ _ _ _ h
              rw [h1.1, h1.2] at h2
              exact h2
            · split at h
              · cases h
              · rename_i hh
                have h1 := ih _ _ _ _ _ _ _ hh
                have h2 := ih _ _ _ _ _ _ _ h
                exact ⟨Nat.le_trans h1.1 h2.1, Nat.le_trans h1.2 h2.2⟩
              · rename_i hh
                have h1 := ih _ _ _ _ _ _ _ hh
                split at h
                · split at h
                  · cases h; exact h1
                  · split at h
                    · cases h
                    · split at h
                      · have h2 := ih _ _ _ _ _ _ _ h
                        exact ⟨Nat.le_trans h1.1 h2.1, Nat.le_trans h1.2 h2.2⟩
                      · cases h
                · cases h
          · cases h
end
section
/-! ===== the abstract machine is the machine's: returns, constants, calls, throws ===== -/
theorem sp_goodIn {ws : List Cond} (h : ∀ w ∈ ws, w ∈ sp_AW) : GoodIn sp_AW ws := fun w hw => ⟨h w hw, good_of_word (List.mem_filter.mp (h w hw)).2⟩
abbrev sp_po (D : va_G) (dA : Nat → ClassId) (A : Nat → Prop) (M1 : sp_M) : Unit → State → Prop := fun _ t => sp_rel D dA A M1 t.heap
def sp_Qc (D : va_G) (dA : Nat → ClassId) (A : Nat → Prop) (r : sp_R) (M1 : sp_M) : Array Value → State → Outcome → State → Prop := match r with
  | .inl none => va_Qv (fun _ : Unit => True) (sp_po D dA A M1) A
  | .inl (some (.int x)) => va_Qi (fun z (_ : Unit) => z = x) (sp_po D dA A M1) A
  | .inl (some (.long x)) => va_Ql (fun z (_ : Unit) => z = x) (sp_po D dA A M1) A
  | .inl (some (.float x)) => va_Qf (fun z (_ : Unit) => z = x) (sp_po D dA A M1) A
  | .inl (some (.double x)) => va_Qd (fun z (_ : Unit) => z = x) (sp_po D dA A M1) A
  | _ => va_Qv (fun _ : Unit => False) (sp_po D dA A M1) A
def sp_XC (D : va_G) (dA : Nat → ClassId) (A : Nat → Prop) (r : sp_R) (M1 : sp_M) : String → State → State → Prop := vx_X (fun _ : Unit => True) (fun E _ t => r = .inr E ∧ sp_rel D dA A M1 t.heap) A
def sp_Pc (D : va_G) (dA : Nat → ClassId) (A : Nat → Prop) (G : sp_G) (as : List Value) (M : sp_M) : Array Value → State → Prop := fun a U => a = as.toArray ∧ sp_ctx D dA A G U U.heap ∧ sp_rel D dA A M U.heap ∧ ∀ q, U.heap.size ≤ q → A q
theorem sp_Pc_blind {D : va_G} {dA : Nat → ClassId} {A : Nat → Prop} {G : sp_G} {as : List Value} {M : sp_M} : FrameBlind (sp_Pc D dA A G as M) := by
  intro a U g mk h
  have h2 : sp_ctx D dA A G (U.calling g mk a) U.heap := sp_ctx.alike (U := U) (V := U.calling g mk a) rfl h.2.1
  exact ⟨h.1, h2, h.2.2.1, h.2.2.2⟩
section SPD
variable {p : Program} {l : Launch} {e0 : Env} {R : Room} {s : State} {m : MethodId} {args : Array Value} {below : List Frame} {meth : Method} {c : Code} {H : Heap} {locs : List Loc} {cells slots : Nat} {Q : State → Prop}
variable {cc : ByteArray} {pc len : Nat} {ls : Array Slot} {st st' : List Value} {D : va_G} {dA : Nat → ClassId} {A : Nat → Prop} {G : sp_G} {cn : Nat} {ini : Bool} {M M' M1 : sp_M} {i : Instr}
theorem sx_ldcwF {T : State} (X : Stand p l e0 R s m args below meth c T locs cells slots) (hexec : p.tables.exec = Jvm.exec) {own : String} {index : Nat} {v : UInt32} (hown : s.vm.findClass own = some m.cls)
    (hconst : (Cond.constantFloat own index v).before args s = true) {g : JFrame} (hg : g.method = m) (hdg : decode c.code g.pc = .ok (.ldc_w index, 3)) :
    ∀ target, Steps p.tables e0 below (T.setTop { g with pc := g.pc + 3, stack := .float v :: g.stack }) target → Steps p.tables e0 below (T.setTop g) target := by
  obtain ⟨k, cf, hk, hcf, hcp⟩ := Cond.constantFloat_spec hown hconst
  obtain ⟨k', hk', he⟩ := X.warmed.alike.2.2 _ _ hk
  intro target hrest
  subst hg
  jvm_step X.here [hexec, hdg, ldc_w.wp_float (s := T) (f := g) X.here.top hk' (by rw [he]; exact hcf) hcp]
  exact hrest
theorem sx_ldcwf (hexec : p.tables.exec = Jvm.exec) (hb : c.code = cc) {own : String} {index : Nat} {v : UInt32} (hown : s.vm.findClass own = some m.cls) (hconst : (Jvm.Cond.constantFloat own index v).before args s = true) (hdg : decode cc pc = .ok (.ldc_w index, 3)) (k : W p l e0 R s m args below meth c H locs cells slots Q (F0 m (pc + 3) ls (.float v :: st))) : W p l e0 R s m args below meth c H locs cells slots Q (F0 m pc ls st) := by
  intro T hT X
  obtain ⟨t, a, b⟩ := k T hT X
  exact ⟨t, sx_ldcwF X hexec hown hconst (g := F0 m pc ls st) rfl (by rw [hb]; exact hdg) t a, b⟩
theorem sp_cst_sound (X : sp_cx p s m args meth c cc D dA A G cn ini) (hdg : decode cc pc = .ok (i, len)) (h : sp_cst cn i len st = some st')
    (k : W p l e0 R s m args below meth c H locs cells slots Q (F0 m (pc + len) ls st')) : W p l e0 R s m args below meth c H locs cells slots Q (F0 m pc ls st) := by
  obtain ⟨hx, hb, hown, hts, -, -, -⟩ := X
  unfold sp_cst at h
  split at h
  · split at h
    · rename_i v h1
      cases h
      exact lv_ldc2 hx hb hown (hts _ (sp_cl_in _ (List.mem_map.mpr ⟨_, sp_fd_mem h1, rfl⟩))) hdg k
    · obtain ⟨v, h1, h2⟩ := Option.map_eq_some_iff.mp h
      cases h2
      exact lv_ldc2d hx hb hown (hts _ (sp_cd_in _ (List.mem_map.mpr ⟨_, sp_fd_mem h1, rfl⟩))) hdg k
  · obtain ⟨v, h1, h2⟩ := Option.map_eq_some_iff.mp h
    cases h2
    exact sx_ldcwf hx hb hown (hts _ (sp_cf_in _ (List.mem_map.mpr ⟨_, sp_fd_mem h1, rfl⟩))) hdg k
  · cases h
theorem sp_ret_ok (hx : p.tables.exec = Jvm.exec) (hb : c.code = cc) {ret : Option FieldType} (hr : meth.sig.returnType = ret) (hlocks : meth.locks = false) (hdg : decode cc pc = .ok (i, len)) {v : Option Value} (h : sp_retn ret i len st = some v) (hR : sp_rel D dA A M1 H) (hS : va_S A s.heap H locs) :
    W p l e0 R s m args below meth c H locs cells slots (MQ below (sp_Qc D dA A (.inl v) M1) args s cells slots A) (F0 m pc ls st) := by
  have hrel : ∀ t : State, t.heap = H → sp_rel D dA A M1 t.heap := fun t ht => by rw [ht]; exact hR
  unfold sp_retn at h
  split at h
  · rename_i x
    split at h
    · rename_i hc
      cases h
      rcases hc with hc | ⟨hc, hx01⟩
      · exact W.iret (v := x) hx hb (hr.trans hc) (fun t ht hW => ⟨⟨x, (), rfl, rfl, hrel t ht⟩, hS.F ht⟩) hS.2.2 hdg
      · exact W.zret (v := x) (ty := .boolean) hx hb (hr.trans hc) (by rcases hx01 with rfl | rfl <;> decide) (fun t ht hW => ⟨⟨x, (), rfl, rfl, hrel t ht⟩, hS.F ht⟩) hS.2.2 hdg
    · cases h
  · rename_i x
    split at h
    · rename_i hc
      cases h
      exact W.lret (v := x) hx hb (hr.trans hc) (fun t ht hW => ⟨⟨x, (), rfl, rfl, hrel t ht⟩, hS.F ht⟩) hS.2.2 hdg
    · cases h
  · rename_i x
    split at h
    · rename_i hc
      cases h
      exact W.fret (v := x) hx hb (hr.trans hc) (fun t ht hW => ⟨⟨x, (), rfl, rfl, hrel t ht⟩, hS.F ht⟩) hS.2.2 hdg
    · cases h
  · rename_i x
    split at h
    · rename_i hc
      cases h
      exact W.dret (v := x) hx hb (hr.trans hc) (fun t ht hW => ⟨⟨x, (), rfl, rfl, hrel t ht⟩, hS.F ht⟩) hS.2.2 hdg
    · cases h
  · split at h
    · rename_i hc
      cases h
      exact W.vret hx hb (hr.trans hc) (fun t ht hW => ⟨⟨(), rfl, trivial, hrel t ht⟩, hS.F ht⟩) hS.2.2 hdg
    · cases h
  · cases h
/-- behind a call that returns or throws -/
theorem sp_call_end {mc ms : Nat} {r1 : sp_R} {a : Array Value} {st0 rest : List Value} (hr : vx_Run p l e0 R s m args below meth c H locs cells slots mc ms (F0 m pc ls st0) rest (sp_Qc D dA A r1 M1 a) (sp_XC D dA A r1 M1) A) (hS : va_S A s.heap H locs)
    (kx : ∀ (E : String) (ce : Cell) (q9 : Addr) (H1 : Heap) (locs1 : List Loc), r1 = .inr E → sp_rel D dA A M1 H1 → va_S A s.heap H1 locs1 → H1[q9]? = some ce → ce.vm = .none → s.vm.findClass E = some ce.cls → vx_W p l e0 R s m args below meth c H1 locs1 (cells + mc) (slots + ms) Q (F0 m pc ls rest) q9)
    (kk : ∀ (v : Option Value) (H1 : Heap) (locs1 : List Loc), r1 = .inl v → sp_rel D dA A M1 H1 → va_S A s.heap H1 locs1 → W p l e0 R s m args below meth c H1 locs1 (cells + mc) (slots + ms) Q (F0 m (pc + 3) ls (v.toList ++ rest))) : W p l e0 R s m args below meth c H locs cells slots Q (F0 m pc ls st0) := by
  have kx' : ∀ (E : String) (ce : Cell) (q9 : Addr) (u : Unit) (t : State) (H1 : Heap) (locs1 : List Loc), t.heap = H1 → s.vm.Alike t.vm → True → (r1 = .inr E ∧ sp_rel D dA A M1 t.heap) → H.size ≤ H1.size → (∀ q : Nat, q < H.size → ¬ A q → H1[q]? = H[q]?) → va_S A s.heap H1 locs1 → H1[q9]? = some ce → ce.vm = .none → s.vm.findClass E = some ce.cls → vx_W p l e0 R s m args below meth c H1 locs1 (cells + mc) (slots + ms) Q (F0 m pc ls rest) q9 :=
    fun E ce q9 u t H1 locs1 ht hv _ hb _ _ hS1 h1 h2 h3 => kx E ce q9 H1 locs1 hb.1 (by rw [← ht]; exact hb.2) hS1 h1 h2 h3
  match r1, hr, kk, kx' with
  | .inl none, hr, kk, kx' => exact vx_callv (a := a) hr hS (fun q _ h => h) (fun q h => h) (fun q _ h => h) kx' (fun u t H1 locs1 ht hv hp hB hz hk hS1 => kk none H1 locs1 rfl (by rw [← ht]; exact hB) hS1)
  | .inl (some (.int x)), hr, kk, kx' => exact vx_calli (a := a) hr hS (fun q _ h => h) (fun q h => h) (fun q _ h => h) kx' (fun z u t H1 locs1 ht hv hp hB hz hk hS1 => by have hp : z = x := hp; subst hp; exact kk (some (.int z)) H1 locs1 rfl (by rw [← ht]; exact hB) hS1)
  | .inl (some (.long x)), hr, kk, kx' => exact vx_calll (a := a) hr hS (fun q _ h => h) (fun q h => h) (fun q _ h => h) kx' (fun z u t H1 locs1 ht hv hp hB hz hk hS1 => by have hp : z = x := hp; subst hp; exact kk (some (.long z)) H1 locs1 rfl (by rw [← ht]; exact hB) hS1)
  | .inl (some (.float x)), hr, kk, kx' => exact vx_callf (a := a) hr hS (fun q _ h => h) (fun q h => h) (fun q _ h => h) kx' (fun z u t H1 locs1 ht hv hp hB hz hk hS1 => by have hp : z = x := hp; subst hp; exact kk (some (.float z)) H1 locs1 rfl (by rw [← ht]; exact hB) hS1)
  | .inl (some (.double x)), hr, kk, kx' => exact vx_calld (a := a) hr hS (fun q _ h => h) (fun q h => h) (fun q _ h => h) kx' (fun z u t H1 locs1 ht hv hp hB hz hk hS1 => by have hp : z = x := hp; subst hp; exact kk (some (.double z)) H1 locs1 rfl (by rw [← ht]; exact hB) hS1)
  | .inl (some .null), hr, kk, kx' => exact vx_callv (a := a) hr hS (fun q _ h => h) (fun q h => h) (fun q _ h => h) kx' (fun u t H1 locs1 ht hv hp hB hz hk hS1 => absurd hp (fun z => z))
  | .inl (some (.ref _)), hr, kk, kx' => exact vx_callv (a := a) hr hS (fun q _ h => h) (fun q h => h) (fun q _ h => h) kx' (fun u t H1 locs1 ht hv hp hB hz hk hS1 => absurd hp (fun z => z))
  | .inl (some (.retAddr _)), hr, kk, kx' => exact vx_callv (a := a) hr hS (fun q _ h => h) (fun q h => h) (fun q _ h => h) kx' (fun u t H1 locs1 ht hv hp hB hz hk hS1 => absurd hp (fun z => z))
  | .inr _, hr, kk, kx' => exact vx_callv (a := a) hr hS (fun q _ h => h) (fun q h => h) (fun q _ h => h) kx' (fun u t H1 locs1 ht hv hp hB hz hk hS1 => absurd hp (fun z => z))
/-- behind a call of a constructor -/
theorem sp_call_endI {mc ms : Nat} {v : Option Value} {a : Array Value} {st0 rest : List Value} (hr : va_Run p l e0 R s m args below meth c H locs cells slots mc ms (F0 m pc ls st0) rest (sp_Qc D dA A (.inl v) M1 a) A) (hS : va_S A s.heap H locs)
    (kk : ∀ (H1 : Heap) (locs1 : List Loc), sp_rel D dA A M1 H1 → va_S A s.heap H1 locs1 → W p l e0 R s m args below meth c H1 locs1 (cells + mc) (slots + ms) Q (F0 m (pc + 3) ls (v.toList ++ rest))) : W p l e0 R s m args below meth c H locs cells slots Q (F0 m pc ls st0) := by
  match v, hr, kk with
  | none, hr, kk => exact va_callv (a := a) hr hS (fun q _ h => h) (fun q h => h) (fun u t H1 locs1 ht hv hp hB hz hk hS1 => kk H1 locs1 (by rw [← ht]; exact hB) hS1)
  | some (.int x), hr, kk => exact va_calli (a := a) hr hS (fun q _ h => h) (fun q h => h) (fun z u t H1 locs1 ht hv hp hB hz hk hS1 => by have hp : z = x := hp; subst hp; exact kk H1 locs1 (by rw [← ht]; exact hB) hS1)
  | some (.long x), hr, kk => exact va_calll (a := a) hr hS (fun q _ h => h) (fun q h => h) (fun z u t H1 locs1 ht hv hp hB hz hk hS1 => by have hp : z = x := hp; subst hp; exact kk H1 locs1 (by rw [← ht]; exact hB) hS1)
  | some (.float x), hr, kk => exact va_callf (a := a) hr hS (fun q _ h => h) (fun q h => h) (fun z u t H1 locs1 ht hv hp hB hz hk hS1 => by have hp : z = x := hp; subst hp; exact kk H1 locs1 (by rw [← ht]; exact hB) hS1)
  | some (.double x), hr, kk => exact va_calld (a := a) hr hS (fun q _ h => h) (fun q h => h) (fun z u t H1 locs1 ht hv hp hB hz hk hS1 => by have hp : z = x := hp; subst hp; exact kk H1 locs1 (by rw [← ht]; exact hB) hS1)
  | some .null, hr, kk => exact va_callv (a := a) hr hS (fun q _ h => h) (fun q h => h) (fun u t H1 locs1 ht hv hp hB hz hk hS1 => absurd hp (fun z => z))
  | some (.ref _), hr, kk => exact va_callv (a := a) hr hS (fun q _ h => h) (fun q h => h) (fun u t H1 locs1 ht hv hp hB hz hk hS1 => absurd hp (fun z => z))
  | some (.retAddr _), hr, kk => exact va_callv (a := a) hr hS (fun q _ h => h) (fun q h => h) (fun u t H1 locs1 ht hv hp hB hz hk hS1 => absurd hp (fun z => z))
end SPD
end
section
/-! ===== the library methods that give the bits of a double and of a float; then the machine whole ===== -/
def sp_jdL : List Cond := [Cond.code yJxe99ae_doubleToLongBits_ccdee cJxe99ae_doubleToLongBits_ccdee 2 (some .long), Cond.code yJxe99ae_isNaN_b9ae7 cJxe99ae_isNaN_b9ae7 2 (some .boolean), Cond.methodLink "java/lang/Double" 122 yJxe99ae_isNaN_b9ae7, Cond.methodLink "java/lang/Double" 134 ⟨"java/lang/Double", "doubleToRawLongBits", "(D)J"⟩, Cond.static yJxe99ae_isNaN_b9ae7, Cond.static ⟨"java/lang/Double", "doubleToRawLongBits", "(D)J"⟩, Cond.native ⟨"java/lang/Double", "doubleToRawLongBits", "(D)J"⟩, Cond.initialized "java/lang/Double", Cond.static yJxe99ae_doubleToLongBits_ccdee, Cond.methodLink RX6 216 yJxe99ae_doubleToLongBits_ccdee, Cond.code yJxf58ca_floatToIntBits_5c35a cJxf58ca_floatToIntBits_5c35a 1 (some .int), Cond.code yJxf58ca_isNaN_12338 cJxf58ca_isNaN_12338 1 (some .boolean), Cond.methodLink "java/lang/Float" 59 yJxf58ca_isNaN_12338, Cond.methodLink "java/lang/Float" 74 ⟨"java/lang/Float", "floatToRawIntBits", "(F)I"⟩, Cond.static yJxf58ca_isNaN_12338, Cond.static ⟨"java/lang/Float", "floatToRawIntBits", "(F)I"⟩, Cond.native ⟨"java/lang/Float", "floatToRawIntBits", "(F)I"⟩, Cond.initialized "java/lang/Float", Cond.static yJxf58ca_floatToIntBits_5c35a, Cond.methodLink RX6 222 yJxf58ca_floatToIntBits_5c35a]
set_option maxRecDepth 100000 in
theorem sp_jd_in : ∀ w ∈ sp_jdL, w ∈ sp_AW := sp_pick _ [1137, 1140, 1138, 1141, 1139, 1142, 1143, 77, 1136, 1135, 1147, 1150, 1148, 1151, 1149, 1152, 1153, 78, 1146, 1145] (by decide +kernel) (by decide +kernel)
theorem sp_jw (k : Nat) {w : Cond} (h : sp_jdL[k]? = some w) : w ∈ sp_AW := sp_jd_in w (List.mem_of_getElem? h)
theorem sx_ofWF {l : Launch} {y : MethodName} {ws ws' : List Cond} {rm : Room} {Pc : Array Value → State → Prop} {Qc : Array Value → State → Outcome → State → Prop} {mc ms : Nat} {free : Addr → Prop} {cc : ByteArray} {maxL : Nat} {ret : Option FieldType}
    (hy : plainFor y = true) (hw : ws = Cond.code y cc maxL ret :: ws')
    (body : ∀ p e s m args below meth c s₁, BodyLoose p l y (headSpec ws rm) cc maxL ret e s m args below meth c s₁ → c.maxLocals = maxL → Pc args s →
      W p l e (headSpec ws rm).room s m args below meth c s.heap [] 0 0 (MQ below Qc args s mc ms free) (entryFrame m args maxL)) : Met l y ws rm Pc Qc mc ms free := by
  refine MetFree.of_bodySF (code := cc) (maxLocals := maxL) (ret := ret) hy ?_ ?_
  · intro args s m h hn
    obtain ⟨meth, c, h1, h2, h3, h4, h5, h6, -, -⟩ := Cond.code_spec hn (atoms_spec (ws := ws) h _ (by rw [hw]; exact List.mem_cons_self))
    exact ⟨meth, c, h1, h2, h3, h4, h5, h6⟩
  · intro p e s m args below meth c s₁ B hml hP _
    have hh0 : s₁.heap = s.heap := by rw [B.state]; rfl
    obtain ⟨t, a1, o, b1, b2, b3⟩ := body p e s m args below meth c s₁ B hml hP s₁ hh0 (Stand.of_body B)
    exact ⟨t, o, a1, b1, b2, ⟨b3.1, b3.2⟩⟩
set_option maxHeartbeats 1000000 in
theorem sp_m_dn (l : Launch) (x : UInt64) (h0 : Op.cmpValue (FP.dcmp x x) CmpOp.l = 0) : Met l yJxe99ae_isNaN_b9ae7 (Cond.code yJxe99ae_isNaN_b9ae7 cJxe99ae_isNaN_b9ae7 2 (some .boolean) :: sp_AW) ({ frames := 0, cells := 0, slots := 0, locals := 0 }) (va_Pc [.double x] (fun _ => True)) (va_Qi (fun r (_ : Unit) => r = 0) (fun _ _ => True) (fun _ => False)) 0 0 (fun _ => False) := by
  refine sx_ofWF (cc := cJxe99ae_isNaN_b9ae7) (maxL := 2) (ret := some .boolean) (by decide +kernel) rfl ?_
  intro p e s m args below meth c s₁ B hml hv
  obtain ⟨rfl, -⟩ := hv
  have hx := B.exec
  have hb := B.bytes
  have hr := B.returns
  have hlocks := B.notSynchronized
  have hl := lv_entry ([.double x]) (n := 2) (Nat.le_of_ble_eq_true rfl)
  rw [lg_entry_eq]
  generalize (lg_sl ([.double x]) ++ List.replicate (2 - (lg_sl ([.double x])).length) Slot.unset).toArray = ls at hl ⊢
  have hl : lv_has ls 2 [(0, .double x)] := hl
  refine lv_dload_n (k := 0) hx hb (by decide +kernel) rfl (lv_at hl 0 rfl) ?_
  refine lv_dload_n (k := 0) hx hb (by decide +kernel) rfl (lv_at hl 0 rfl) ?_
  refine lv_dcmp (op := .l) hx hb (by decide +kernel) ?_
  rw [h0]
  refine lv_if_eq (off := 7) (tgt := 10) hx hb (by decide +kernel) (by decide) (fun _ => ?_) (fun q => absurd rfl q)
  refine lv_iconst (n := 0) (v := 0) hx hb (by decide +kernel) (by decide) ?_
  exact W.zret (v := 0) (ty := .boolean) hx hb hr (by decide) (fun t ht hW => ⟨⟨0, (), rfl, rfl, trivial⟩, (va_S.rf (A := fun _ => False) (H0 := s.heap)).F ht⟩) (fun q hq => absurd hq List.not_mem_nil) (by decide +kernel)
set_option maxHeartbeats 1000000 in
theorem sp_m_d (l : Launch) (x : UInt64) (h0 : Op.cmpValue (FP.dcmp x x) CmpOp.l = 0) : Met l yJxe99ae_doubleToLongBits_ccdee (Cond.code yJxe99ae_doubleToLongBits_ccdee cJxe99ae_doubleToLongBits_ccdee 2 (some .long) :: sp_AW) ({ frames := 2, cells := 0, slots := 0, locals := 50 }) (va_Pc [.double x] (fun _ => True)) (va_Ql (fun r (_ : Unit) => r = x.toInt64) (fun _ _ => True) (fun _ => False)) 0 0 (fun _ => False) := by
  refine sx_ofWF (cc := cJxe99ae_doubleToLongBits_ccdee) (maxL := 2) (ret := some .long) (by decide +kernel) rfl ?_
  intro p e s m args below meth c s₁ B hml hv
  obtain ⟨rfl, -⟩ := hv
  have hx := B.exec
  have hb := B.bytes
  have hr := B.returns
  have hts0 := atoms_spec (ws := Cond.code yJxe99ae_doubleToLongBits_ccdee cJxe99ae_doubleToLongBits_ccdee 2 (some .long) :: sp_AW) B.pre
  have hts : ∀ w ∈ sp_AW, w.before _ s = true := fun w h => hts0 w (List.mem_cons_of_mem _ h)
  have hown : s.vm.findClass "java/lang/Double" = some m.cls := findClass_of_methodNamed B.named
  have hlocks := B.notSynchronized
  have hl := lv_entry ([.double x]) (n := 2) (Nat.le_of_ble_eq_true rfl)
  have hS : va_S (fun _ => False) s.heap s.heap [] := va_S.rf
  rw [lg_entry_eq]
  generalize (lg_sl ([.double x]) ++ List.replicate (2 - (lg_sl ([.double x])).length) Slot.unset).toArray = ls at hl ⊢
  have hl : lv_has ls 2 [(0, .double x)] := hl
  refine lv_dload_n (k := 0) hx hb (by decide +kernel) rfl (lv_at hl 0 rfl) ?_
  have d1 : decode cJxe99ae_doubleToLongBits_ccdee 1 = .ok (.invokestatic 122, 3) := by decide +kernel
  refine va_calli (a := [Value.double x].toArray) (va_runS (As := [.double x]) (rest := []) (index := 122) ⟨hx, hb, hml, hown, hts⟩ (sp_m_dn l x h0) (va_cwS 1 hts (sp_goodIn (fun w hw => by
      simp only [va_wsS, List.cons_append, List.nil_append, List.mem_cons] at hw
      rcases hw with rfl | rfl | rfl | rfl | hw
      · exact sp_jw 2 rfl
      · exact sp_jw 4 rfl
      · exact sp_jw 7 rfl
      · exact sp_jw 1 rfl
      · exact hw)) rfl rfl rfl (by decide +kernel) ⟨Nat.le_of_ble_eq_true rfl, Nat.le_of_ble_eq_true rfl⟩) ⟨fun a U g mk q => q, fun U hU hW => ⟨rfl, trivial⟩⟩ rfl rfl hl.1 rfl (lv_room (Nat.le_of_ble_eq_true rfl)) d1 ⟨Nat.le_of_ble_eq_true rfl, Nat.le_of_ble_eq_true rfl⟩) hS (fun q _ h => h.elim) (fun q h => h.elim) (fun r u t H1 locs ht hvm hw hB hz1 hk1 hS => ?_)
  have hw : r = 0 := hw
  subst hw
  refine lv_if_ne (off := 8) (tgt := 12) hx hb (by decide +kernel) (by decide) (fun q => absurd rfl q) (fun _ => ?_)
  refine lv_dload_n (k := 0) hx hb (by decide +kernel) rfl (lv_at hl 0 rfl) ?_
  refine vn_d2l (index := 134) hx hb (hml.trans hl.1.symm) hown (hts _ (sp_jw 3 rfl)) (hts _ (sp_jw 6 rfl)) (hts _ (sp_jw 5 rfl)) (hts _ (sp_jw 7 rfl)) (Nat.le_of_ble_eq_true rfl) (Nat.le_of_ble_eq_true rfl) (by decide +kernel) ?_
  exact W.lret hx hb hr (fun t ht hW => ⟨⟨x.toInt64, (), rfl, rfl, trivial⟩, hS.F ht⟩) hS.2.2 (by decide +kernel)
set_option maxHeartbeats 1000000 in
theorem sp_m_fn (l : Launch) (x : UInt32) (h0 : Op.cmpValue (FP.fcmp x x) CmpOp.l = 0) : Met l yJxf58ca_isNaN_12338 (Cond.code yJxf58ca_isNaN_12338 cJxf58ca_isNaN_12338 1 (some .boolean) :: sp_AW) ({ frames := 0, cells := 0, slots := 0, locals := 0 }) (va_Pc [.float x] (fun _ => True)) (va_Qi (fun r (_ : Unit) => r = 0) (fun _ _ => True) (fun _ => False)) 0 0 (fun _ => False) := by
  refine sx_ofWF (cc := cJxf58ca_isNaN_12338) (maxL := 1) (ret := some .boolean) (by decide +kernel) rfl ?_
  intro p e s m args below meth c s₁ B hml hv
  obtain ⟨rfl, -⟩ := hv
  have hx := B.exec
  have hb := B.bytes
  have hr := B.returns
  have hlocks := B.notSynchronized
  have hl := lv_entry ([.float x]) (n := 1) (Nat.le_of_ble_eq_true rfl)
  rw [lg_entry_eq]
  generalize (lg_sl ([.float x]) ++ List.replicate (1 - (lg_sl ([.float x])).length) Slot.unset).toArray = ls at hl ⊢
  have hl : lv_has ls 1 [(0, .float x)] := hl
  refine lv_fload_n (k := 0) hx hb (by decide +kernel) rfl (lv_at hl 0 rfl) ?_
  refine lv_fload_n (k := 0) hx hb (by decide +kernel) rfl (lv_at hl 0 rfl) ?_
  refine lv_fcmp (op := .l) hx hb (by decide +kernel) ?_
  rw [h0]
  refine lv_if_eq (off := 7) (tgt := 10) hx hb (by decide +kernel) (by decide) (fun _ => ?_) (fun q => absurd rfl q)
  refine lv_iconst (n := 0) (v := 0) hx hb (by decide +kernel) (by decide) ?_
  exact W.zret (v := 0) (ty := .boolean) hx hb hr (by decide) (fun t ht hW => ⟨⟨0, (), rfl, rfl, trivial⟩, (va_S.rf (A := fun _ => False) (H0 := s.heap)).F ht⟩) (fun q hq => absurd hq List.not_mem_nil) (by decide +kernel)
set_option maxHeartbeats 1000000 in
theorem sp_m_f (l : Launch) (x : UInt32) (h0 : Op.cmpValue (FP.fcmp x x) CmpOp.l = 0) : Met l yJxf58ca_floatToIntBits_5c35a (Cond.code yJxf58ca_floatToIntBits_5c35a cJxf58ca_floatToIntBits_5c35a 1 (some .int) :: sp_AW) ({ frames := 2, cells := 0, slots := 0, locals := 50 }) (va_Pc [.float x] (fun _ => True)) (va_Qi (fun r (_ : Unit) => r = x.toInt32) (fun _ _ => True) (fun _ => False)) 0 0 (fun _ => False) := by
  refine sx_ofWF (cc := cJxf58ca_floatToIntBits_5c35a) (maxL := 1) (ret := some .int) (by decide +kernel) rfl ?_
  intro p e s m args below meth c s₁ B hml hv
  obtain ⟨rfl, -⟩ := hv
  have hx := B.exec
  have hb := B.bytes
  have hr := B.returns
  have hts0 := atoms_spec (ws := Cond.code yJxf58ca_floatToIntBits_5c35a cJxf58ca_floatToIntBits_5c35a 1 (some .int) :: sp_AW) B.pre
  have hts : ∀ w ∈ sp_AW, w.before _ s = true := fun w h => hts0 w (List.mem_cons_of_mem _ h)
  have hown : s.vm.findClass "java/lang/Float" = some m.cls := findClass_of_methodNamed B.named
  have hlocks := B.notSynchronized
  have hl := lv_entry ([.float x]) (n := 1) (Nat.le_of_ble_eq_true rfl)
  have hS : va_S (fun _ => False) s.heap s.heap [] := va_S.rf
  rw [lg_entry_eq]
  generalize (lg_sl ([.float x]) ++ List.replicate (1 - (lg_sl ([.float x])).length) Slot.unset).toArray = ls at hl ⊢
  have hl : lv_has ls 1 [(0, .float x)] := hl
  refine lv_fload_n (k := 0) hx hb (by decide +kernel) rfl (lv_at hl 0 rfl) ?_
  have d1 : decode cJxf58ca_floatToIntBits_5c35a 1 = .ok (.invokestatic 59, 3) := by decide +kernel
  refine va_calli (a := [Value.float x].toArray) (va_runS (As := [.float x]) (rest := []) (index := 59) ⟨hx, hb, hml, hown, hts⟩ (sp_m_fn l x h0) (va_cwS 1 hts (sp_goodIn (fun w hw => by
      simp only [va_wsS, List.cons_append, List.nil_append, List.mem_cons] at hw
      rcases hw with rfl | rfl | rfl | rfl | hw
      · exact sp_jw 12 rfl
      · exact sp_jw 14 rfl
      · exact sp_jw 17 rfl
      · exact sp_jw 11 rfl
      · exact hw)) rfl rfl rfl (by decide +kernel) ⟨Nat.le_of_ble_eq_true rfl, Nat.le_of_ble_eq_true rfl⟩) ⟨fun a U g mk q => q, fun U hU hW => ⟨rfl, trivial⟩⟩ rfl rfl hl.1 rfl (lv_room (Nat.le_of_ble_eq_true rfl)) d1 ⟨Nat.le_of_ble_eq_true rfl, Nat.le_of_ble_eq_true rfl⟩) hS (fun q _ h => h.elim) (fun q h => h.elim) (fun r u t H1 locs ht hvm hw hB hz1 hk1 hS => ?_)
  have hw : r = 0 := hw
  subst hw
  refine lv_if_ne (off := 8) (tgt := 12) hx hb (by decide +kernel) (by decide) (fun q => absurd rfl q) (fun _ => ?_)
  refine lv_fload_n (k := 0) hx hb (by decide +kernel) rfl (lv_at hl 0 rfl) ?_
  refine vn_f2i (index := 74) hx hb (hml.trans hl.1.symm) hown (hts _ (sp_jw 13 rfl)) (hts _ (sp_jw 16 rfl)) (hts _ (sp_jw 15 rfl)) (hts _ (sp_jw 17 rfl)) (Nat.le_of_ble_eq_true rfl) (Nat.le_of_ble_eq_true rfl) (by decide +kernel) ?_
  exact W.iret hx hb hr (fun t ht hW => ⟨⟨x.toInt32, (), rfl, rfl, trivial⟩, hS.F ht⟩) hS.2.2 (by decide +kernel)
end
section
/-! ===== what the abstract machine comes to, the machine comes to ===== -/
def sp_ws (e : sp_E) : List Cond := sp_code e :: sp_AW
/-- soundness of n rounds: from a place of a method, with a relation between cells -/
def sp_Snd (D : va_G) (dA : Nat → ClassId) (A : Nat → Prop) (G : sp_G) (n : Nat) : Prop :=
  ∀ (y pc : Nat) (L : sp_L) (st : List Value) (M : sp_M) (r : sp_R) (M' : sp_M), sp_exec G n y pc L st M = some (r, M') →
  ∀ (p : Program) (l : Launch) (e0 : Env) (R : Room) (s : State) (m : MethodId) (args : Array Value) (below : List Frame) (meth : Method) (c : Code) (H : Heap) (locs : List Loc) (cells slots : Nat) (Q : State → Prop) (ls : Array Slot) (c0 s0 : Nat) (e : sp_E),
  l.stackTraces = false → sp_T[y]? = some e → sp_cx p s m args meth c e.2.1 D dA A G e.2.2.2.2.2.1 (decide (e.2.2.2.2.2.2.2.2.2 = 2)) → c.maxLocals = e.2.2.1 → (e.2.2.2.2.1 ≠ [] ∨ (∃ E, r = .inr E) → c.exceptionTable.toList = tableOf e.2.2.2.2.1) → e.2.2.2.2.2.2.2.1 ≤ R.frames → e.2.2.2.2.2.2.2.2.1 ≤ R.locals →
  va_S A s.heap H locs → sp_rel D dA A M H → sp_lr ls e.2.2.1 L → M.2.1 = c0 + cells → M.2.2.1 = s0 + slots → M'.2.1 ≤ c0 + R.cells → M'.2.2.1 ≤ s0 + R.slots →
  (∀ (v : Option Value) (pc : Nat) (ls : Array Slot) (st : List Value) (H1 : Heap) (locs1 : List Loc) (cells1 slots1 : Nat) (i : Instr) (len : Nat), r = .inl v → decode e.2.1 pc = .ok (i, len) → sp_retn e.2.2.2.1 i len st = some v → sp_rel D dA A M' H1 → va_S A s.heap H1 locs1 → M'.2.1 = c0 + cells1 → M'.2.2.1 = s0 + slots1 → W p l e0 R s m args below meth c H1 locs1 cells1 slots1 Q (F0 m pc ls st)) →
  (∀ (E : String) (pc : Nat) (ls : Array Slot) (rest : List Value) (H1 : Heap) (locs1 : List Loc) (cells1 slots1 : Nat) (q : Addr) (ce : Cell), r = .inr E → sp_rel D dA A M' H1 → va_S A s.heap H1 locs1 → M'.2.1 = c0 + cells1 → M'.2.2.1 = s0 + slots1 → H1[q]? = some ce → ce.vm = .none → s.vm.findClass E = some ce.cls → (∀ z ∈ c.exceptionTable.toList, covers z pc = false ∨ (z.catchType ≠ 0 ∧ ∃ nm : String, (Cond.classLink (sp_cls e.2.2.2.2.2.1) z.catchType nm).before args s = true ∧ va_Nc E nm s)) → vx_W p l e0 R s m args below meth c H1 locs1 cells1 slots1 Q (F0 m pc ls rest) q) →
  (∀ (q : String × Nat × Nat × Nat × Bool × String) (pc : Nat) (ls : Array Slot) (st : List Value) (H1 : Heap) (locs1 : List Loc) (cells1 slots1 : Nat) (M1 : sp_M), sp_fd sp_thT y pc = some q → r = .inr q.1 → M' = (none, M1.2.1 + 1, M1.2.2.1 + 6, M1.2.2.2) → sp_sum st ≤ 8 → sp_rel D dA A M1 H1 → va_S A s.heap H1 locs1 → M1.2.1 = c0 + cells1 → M1.2.2.1 = s0 + slots1 → ls.size = c.maxLocals → W p l e0 R s m args below meth c H1 locs1 cells1 slots1 Q (F0 m pc ls st)) →
  W p l e0 R s m args below meth c H locs cells slots Q (F0 m pc ls st)
section SPE
variable {D : va_G} {dA : Nat → ClassId} {A : Nat → Prop} {G : sp_G} {n : Nat}
theorem sp_T_get {y : Nat} {e : sp_E} (h : sp_T0[y]? = some e) : sp_T[y]? = some e ∧ e ∈ sp_T0 := by
  refine ⟨?_, List.mem_of_getElem? h⟩
  have hy : y < sp_T0.length := (List.getElem?_eq_some_iff.mp h).1
  unfold sp_T
  rw [List.getElem?_append_left hy]
  exact h
theorem sp_ml_of {y : Nat} {e : sp_E} (h : sp_T0[y]? = some e) : sp_ml y = e.2.2.1 := by unfold sp_ml; rw [h]
theorem sp_kd_of {y : Nat} {e : sp_E} (h : sp_T0[y]? = some e) : sp_kd y = e.2.2.2.2.2.2.2.2.2 := by unfold sp_kd; rw [h]
abbrev sp_rmE (e : sp_E) (M M1 : sp_M) : Room := { frames := e.2.2.2.2.2.2.2.1, cells := M1.2.1 - M.2.1, slots := M1.2.2.1 - M.2.2.1, locals := e.2.2.2.2.2.2.2.2.1 }
/-- a body of a method, entered with what its caller has -/
theorem sp_body (IH : sp_Snd D dA A G n) {y : Nat} {e : sp_E} {as : List Value} {M M1 : sp_M} {r1 : sp_R} (he : sp_T0[y]? = some e) (hex : sp_exec G n y 0 (sp_ent (sp_ml y) as) [] M = some (r1, M1)) (hlen : (sp_ea as).length ≤ e.2.2.1)
    {p : Program} {l : Launch} {e0 : Env} {s : State} {m : MethodId} {args : Array Value} {below : List Frame} {meth : Method} {c : Code} {s₁ : State} {cc : ByteArray} {nL : Nat} {ret : Option FieldType} (hl : l.stackTraces = false) (B : BodyLoose p l e.1 (headSpec (sp_ws e) (sp_rmE e M M1)) cc nL ret e0 s m args below meth c s₁) (hcc : cc = e.2.1) (hnL : nL = e.2.2.1) (hret : ret = e.2.2.2.1)
    (hml : c.maxLocals = nL) (htab : c.exceptionTable.toList = tableOf e.2.2.2.2.1) (hP : sp_Pc D dA A G as M args s) {Q : State → Prop}
    (HRet : ∀ (v : Option Value) (pc : Nat) (ls : Array Slot) (st : List Value) (H1 : Heap) (locs1 : List Loc) (i : Instr) (len : Nat), r1 = .inl v → decode e.2.1 pc = .ok (i, len) → sp_retn e.2.2.2.1 i len st = some v → sp_rel D dA A M1 H1 → va_S A s.heap H1 locs1 → W p l e0 (sp_rmE e M M1) s m args below meth c H1 locs1 (M1.2.1 - M.2.1) (M1.2.2.1 - M.2.2.1) Q (F0 m pc ls st))
    (HOut : ∀ (E : String) (pc : Nat) (ls : Array Slot) (rest : List Value) (H1 : Heap) (locs1 : List Loc) (q : Addr) (ce : Cell), r1 = .inr E → sp_rel D dA A M1 H1 → va_S A s.heap H1 locs1 → H1[q]? = some ce → ce.vm = .none → s.vm.findClass E = some ce.cls → (∀ z ∈ c.exceptionTable.toList, covers z pc = false ∨ (z.catchType ≠ 0 ∧ ∃ nm : String, (Cond.classLink (sp_cls e.2.2.2.2.2.1) z.catchType nm).before args s = true ∧ va_Nc E nm s)) → vx_W p l e0 (sp_rmE e M M1) s m args below meth c H1 locs1 (M1.2.1 - M.2.1) (M1.2.2.1 - M.2.2.1) Q (F0 m pc ls rest) q)
    (HThr : ∀ (q : String × Nat × Nat × Nat × Bool × String) (pc : Nat) (ls : Array Slot) (st : List Value) (H1 : Heap) (locs1 : List Loc) (cells1 slots1 : Nat) (M2 : sp_M), sp_fd sp_thT y pc = some q → r1 = .inr q.1 → M1 = (none, M2.2.1 + 1, M2.2.2.1 + 6, M2.2.2.2) → sp_sum st ≤ 8 → sp_rel D dA A M2 H1 → va_S A s.heap H1 locs1 → cells1 + 1 = M1.2.1 - M.2.1 → slots1 + 6 = M1.2.2.1 - M.2.2.1 → ls.size = c.maxLocals → W p l e0 (sp_rmE e M M1) s m args below meth c H1 locs1 cells1 slots1 Q (F0 m pc ls st)) :
    W p l e0 (sp_rmE e M M1) s m args below meth c s.heap [] 0 0 Q (entryFrame m args nL) := by
  obtain ⟨rfl, hC, hR, hA⟩ := hP
  obtain ⟨hT, hmem⟩ := sp_T_get he
  obtain ⟨⟨-, -⟩, -, hcl, hkind⟩ := sp_T_ok e hmem
  have hmono := sp_exec_mono G _ _ _ _ _ _ _ _ hex
  rw [sp_ml_of he] at hex
  subst hcc
  subst hnL
  rw [lg_entry_eq]
  have hts0 := atoms_spec (ws := sp_ws e) B.pre
  have hown : s.vm.findClass (sp_cls e.2.2.2.2.2.1) = some m.cls := by rw [← hcl]; exact findClass_of_methodNamed B.named
  have hX : sp_cx p s m as.toArray meth c e.2.1 D dA A G e.2.2.2.2.2.1 (decide (e.2.2.2.2.2.2.2.2.2 = 2)) :=
    ⟨B.exec, B.bytes, hown, fun w hw => hts0 w (List.mem_cons_of_mem _ hw), hC, fun hk => (name_of_methodNamed B.named B.method).1.trans (hkind (of_decide_eq_true hk)).1, hA⟩
  refine IH y 0 _ [] M r1 M1 hex p l e0 (sp_rmE e M M1) s m as.toArray below meth c s.heap [] 0 0 Q _ M.2.1 M.2.2.1 e hl hT hX hml (fun _ => htab) (Nat.le_refl _) (Nat.le_refl _) va_S.rf hR (sp_ent_lr hlen) rfl rfl (by show M1.2.1 ≤ M.2.1 + (M1.2.1 - M.2.1); omega) (by show M1.2.2.1 ≤ M.2.2.1 + (M1.2.2.1 - M.2.2.1); omega) ?_ ?_ ?_
  · intro v pc ls st H1 locs1 cells1 slots1 i len hr hd hrt hrel hS1 h1 h2
    have e1 : cells1 = M1.2.1 - M.2.1 := by omega
    have e2 : slots1 = M1.2.2.1 - M.2.2.1 := by omega
    subst e1
    subst e2
    exact HRet v pc ls st H1 locs1 i len hr hd hrt hrel hS1
  · intro E pc ls rest H1 locs1 cells1 slots1 q ce hr hrel hS1 h1 h2 k1 k2 k3 k4
    have e1 : cells1 = M1.2.1 - M.2.1 := by omega
    have e2 : slots1 = M1.2.2.1 - M.2.2.1 := by omega
    subst e1
    subst e2
    exact HOut E pc ls rest H1 locs1 q ce hr hrel hS1 k1 k2 k3 k4
  · intro q pc ls st H1 locs1 cells1 slots1 M2 hq hr hM hst hrel hS1 h1 h2 hls
    refine HThr q pc ls st H1 locs1 cells1 slots1 M2 hq hr hM hst hrel hS1 ?_ ?_ hls
    · rw [hM]; show cells1 + 1 = M2.2.1 + 1 - M.2.1; omega
    · rw [hM]; show slots1 + 6 = M2.2.2.1 + 6 - M.2.2.1; omega
/-- a method that is no constructor: it returns or throws -/
theorem sp_met (IH : sp_Snd D dA A G n) {y : Nat} {e : sp_E} {as : List Value} {M M1 : sp_M} {r1 : sp_R} (he : sp_T0[y]? = some e) (hex : sp_exec G n y 0 (sp_ent (sp_ml y) as) [] M = some (r1, M1)) (hlen : (sp_ea as).length ≤ e.2.2.1) {l : Launch} (hl : l.stackTraces = false) :
    vx_Met l e.1 (sp_ws e) (sp_rmE e M M1) (sp_Pc D dA A G as M) (sp_Qc D dA A r1 M1) (sp_XC D dA A r1 M1) (M1.2.1 - M.2.1) (M1.2.2.1 - M.2.2.1) A := by
  obtain ⟨hT, hmem⟩ := sp_T_get he
  obtain ⟨⟨hpl, -⟩, -, hcl, hkind⟩ := sp_T_ok e hmem
  have main : ∀ {p : Program} {e0 : Env} {s : State} {m : MethodId} {args : Array Value} {below : List Frame} {meth : Method} {c : Code} {s₁ : State} (B : BodyLoose p l e.1 (headSpec (sp_ws e) (sp_rmE e M M1)) e.2.1 e.2.2.1 e.2.2.2.1 e0 s m args below meth c s₁) (hml : c.maxLocals = e.2.2.1) (htab : c.exceptionTable.toList = tableOf e.2.2.2.2.1) (hP : sp_Pc D dA A G as M args s),
      W p l e0 (sp_rmE e M M1) s m args below meth c s.heap [] 0 0 (vx_MQ below (sp_Qc D dA A r1 M1) (sp_XC D dA A r1 M1) args s (M1.2.1 - M.2.1) (M1.2.2.1 - M.2.2.1) A) (entryFrame m args e.2.2.1) := by
    intro p e0 s m args below meth c s₁ B hml htab hP
    have hts0 := atoms_spec (ws := sp_ws e) B.pre
    have hown : s.vm.findClass (sp_cls e.2.2.2.2.2.1) = some m.cls := by rw [← hcl]; exact findClass_of_methodNamed B.named
    refine sp_body IH he hex hlen hl B rfl rfl rfl hml htab hP ?_ ?_ ?_
    · intro v pc ls st H1 locs1 i len hr hd hrt hrel hS1
      subst hr
      exact vx_ret (sp_ret_ok B.exec B.bytes B.returns B.notSynchronized hd hrt hrel hS1)
    · intro E pc ls rest H1 locs1 q ce hr hrel hS1 k1 k2 k3 k4
      exact vx_outP hown B.notSynchronized k4 k1 k2 k3 (fun t ht hv => ⟨(), trivial, ⟨hr, by rw [ht]; exact hrel⟩, hS1.F ht⟩) hS1.2.2 (Nat.le_refl _) (Nat.le_refl _)
    · intro q pc ls st H1 locs1 cells1 slots1 M2 hq hr hM hst hrel hS1 h1 h2 hls
      have hm := sp_fd_mem hq
      obtain ⟨e', he', d0, d3, dd, hh, hc5, hv7, hl100⟩ := sp_th_ins _ hm
      have hee : e' = e := Option.some.inj (he'.symm.trans hT)
      subst hee
      have hC := hP.2.1
      obtain ⟨sa, hsa⟩ := hC.2.2.2.2.2.1 _ hm
      have h5 : sp_cls e'.2.2.2.2.2.1 = RX5 := by rw [hc5]; rfl
      rw [h5] at hown
      have hat := sp_th_at _ (sp_th_k _ hm)
      have hk : (Cond.classLink RX5 q.2.1 q.1).before args s = true := hts0 _ (List.mem_cons_of_mem _ (sp_th_in _ (List.mem_map.mpr ⟨_, hm, rfl⟩)))
      have hini : (Cond.initialized q.1).before args s = true := hts0 _ (List.mem_cons_of_mem _ (sp_th_i2 _ (List.mem_map.mpr ⟨_, hm, rfl⟩)))
      have hats : ∀ w ∈ vx_atS RX5 q.2.2.2.1 q.1 sp_up3, w.before args s = true := fun w hw => by
        obtain ⟨w1, w2, -⟩ := hat w hw
        rcases w2 with w2 | w2
        · exact hts0 _ (List.mem_cons_of_mem _ (List.mem_filter.mpr ⟨w1, w2⟩))
        · exact va_tabs (by cases w <;> first | rfl | (exfalso; simp [sp_nwOK] at w2)) rfl (hC.2.1 w w1 w2)
      have hout : ∀ z, ∀ x ∈ c.exceptionTable.toList, covers x z = false := fun z x hx => by rw [htab, hh] at hx; cases hx
      have hrel' : ∀ t : State, H1.size ≤ t.heap.size → (∀ q : Nat, q < H1.size → t.heap[q]? = H1[q]?) → sp_rel D dA A M1 t.heap := fun t _ hk => by
        rw [hM]
        exact ⟨fun z hz => (nomatch hz), fun a e2 ha => ⟨(hrel.2 a e2 ha).1, (hrel.2 a e2 ha).2.kept (hk a (hrel.2 a e2 ha).2.lt)⟩⟩
      have hxx : ∀ t : State, s.vm.Alike t.vm → H1.size ≤ t.heap.size → (∀ q : Nat, q < H1.size → t.heap[q]? = H1[q]?) → sp_XC D dA A r1 M1 q.1 s t := fun t _ hz hk =>
        ⟨(), trivial, ⟨hr, hrel' t hz hk⟩, ⟨Nat.le_trans hS1.1 hz, fun a h3 h4 => (hk a (Nat.lt_of_lt_of_le h3 hS1.1)).trans (hS1.2.1 a h3 h4)⟩⟩
      have hgood : ∀ w ∈ Cond.classLink RX5 q.2.1 q.1 :: Cond.initialized q.1 :: vx_atS RX5 q.2.2.2.1 q.1 sp_up3, vx_ot w = true := fun w hw => by
        rcases List.mem_cons.mp hw with rfl | hw
        · rfl
        · rcases List.mem_cons.mp hw with rfl | hw
          · rfl
          · exact (hat w hw).2.2
      have hst' : (st.map fun v => v.category).sum ≤ 8 := hst
      have hfr : sp_up3.length + 3 < (sp_rmE e' M M1).frames := by show 2 + 3 < e'.2.2.2.2.2.2.2.1; omega
      have hlo : (st.map fun v => v.category).sum + (13 * (sp_up3.length + 1) + 43) ≤ (sp_rmE e' M M1).locals := by show _ + (13 * (2 + 1) + 43) ≤ e'.2.2.2.2.2.2.2.2.1; omega
      by_cases hwide : q.2.2.2.2.1 = true
      · rw [if_pos hwide] at dd
        exact vx_throwSW (text := q.2.2.2.2.2) (names := sp_up3) B.exec B.bytes hl hown (sp_th_fit _ hm) (by decide +kernel) hk hini hsa hats hgood hC.2.2.2.2.2.2.1 hC.2.2.2.2.2.2.2.1 hS1 hls d0 d3 dd.1 dd.2.1 dd.2.2 (hout _) hfr hlo (by show cells1 + 1 ≤ M1.2.1 - M.2.1; omega) (by show slots1 + 6 ≤ M1.2.2.1 - M.2.2.1; omega) B.notSynchronized hxx hS1.2.2 (by omega) (by omega)
      · rw [if_neg hwide] at dd
        exact vx_throwS (text := q.2.2.2.2.2) (names := sp_up3) B.exec B.bytes hl hown (sp_th_fit _ hm) (by decide +kernel) hk hini hsa hats hgood hC.2.2.2.2.2.2.1 hC.2.2.2.2.2.2.2.1 hS1 hls d0 d3 dd.1 dd.2.1 dd.2.2 (hout _) hfr hlo (by show cells1 + 1 ≤ M1.2.1 - M.2.1; omega) (by show slots1 + 6 ≤ M1.2.2.1 - M.2.2.1; omega) B.notSynchronized hxx hS1.2.2 (by omega) (by omega)
  by_cases hh : e.2.2.2.2.1 = []
  · refine vx_ofW (cc := e.2.1) (maxL := e.2.2.1) (ret := e.2.2.2.1) (ws' := sp_AW) hpl (by unfold sp_ws sp_code; rw [if_pos hh]) ?_
    intro p e0 s m args below meth c s₁ B hml hno hP
    refine main B hml ?_ hP
    rw [hh]
    show c.exceptionTable.toList = []
    exact List.eq_nil_iff_forall_not_mem.mpr fun x hx => hno x hx
  · refine vx_ofWH (cc := e.2.1) (maxL := e.2.2.1) (ret := e.2.2.2.1) (hh := e.2.2.2.2.1) (ws' := sp_AW) hpl (by unfold sp_ws sp_code; rw [if_neg hh]) ?_
    intro p e0 s m args below meth c s₁ B hml hP
    refine main B hml (vx_table (x := e.1) B (bytes := e.2.1) (maxL' := e.2.2.1) (ret' := e.2.2.2.1) (hh := e.2.2.2.2.1) ?_) hP
    have := atoms_spec (ws := sp_ws e) B.pre (sp_code e) List.mem_cons_self
    unfold sp_code at this
    rw [if_neg hh] at this
    exact this
/-- a constructor: it returns -/
theorem sp_metI (IH : sp_Snd D dA A G n) {y : Nat} {e : sp_E} {as : List Value} {M M1 : sp_M} {v1 : Option Value} (he : sp_T0[y]? = some e) (hex : sp_exec G n y 0 (sp_ent (sp_ml y) as) [] M = some (.inl v1, M1)) (hlen : (sp_ea as).length ≤ e.2.2.1) (hh : e.2.2.2.2.1 = []) {l : Launch} (hl : l.stackTraces = false) :
    Met l e.1 (sp_ws e) (sp_rmE e M M1) (sp_Pc D dA A G as M) (sp_Qc D dA A (.inl v1) M1) (M1.2.1 - M.2.1) (M1.2.2.1 - M.2.2.1) A := by
  obtain ⟨hT, hmem⟩ := sp_T_get he
  obtain ⟨⟨hpl, -⟩, -, hcl, hkind⟩ := sp_T_ok e hmem
  refine Met.ofW (cc := e.2.1) (maxL := e.2.2.1) (ret := e.2.2.2.1) (ws' := sp_AW) hpl (by unfold sp_ws sp_code; rw [if_pos hh]) ?_
  intro p e0 s m args below meth c s₁ B hml hP
  have htab : c.exceptionTable.toList = tableOf e.2.2.2.2.1 := by
    obtain ⟨meth9, c9, h1, h2, -, -, -, -, h7, -⟩ := Cond.code_spec B.named (atoms_spec (ws := sp_ws e) B.pre (Cond.code e.1 e.2.1 e.2.2.1 e.2.2.2.1) (by unfold sp_ws sp_code; rw [if_pos hh]; exact List.mem_cons_self))
    cases Option.some.inj (h1.symm.trans B.method)
    cases Option.some.inj (h2.symm.trans (Stand.of_body B).code)
    rw [Array.isEmpty_iff.mp h7, hh]
    rfl
  refine sp_body IH he hex hlen hl B rfl rfl rfl hml htab hP ?_ ?_ ?_
  · intro v pc ls st H1 locs1 i len hr hd hrt hrel hS1
    cases hr
    exact sp_ret_ok B.exec B.bytes B.returns B.notSynchronized hd hrt hrel hS1
  · intro E pc ls rest H1 locs1 q ce hr
    cases hr
  · intro q pc ls st H1 locs1 cells1 slots1 M2 hq hr
    cases hr
end SPE
end
section
/-! ===== by induction on the rounds ===== -/
section SPF
variable {D : va_G} {dA : Nat → ClassId} {A : Nat → Prop} {G : sp_G} {n : Nat}
variable {p : Program} {l : Launch} {e0 : Env} {R : Room} {s : State} {m : MethodId} {args : Array Value} {below : List Frame} {meth : Method} {c : Code} {H : Heap} {locs : List Loc} {cells slots : Nat} {Q : State → Prop}
theorem sp_ctx_at {U : State} (hS : va_S A s.heap H locs) (hC : sp_ctx D dA A G s s.heap) (hU : U.heap = H) (hW : s.WarmedH U.vm) : sp_ctx D dA A G U U.heap := by
  rw [hU]
  exact sp_ctx.warm hW (hC.kept hS.1 hS.2.1)
theorem sp_Pc_at {as : List Value} {M : sp_M} (hS : va_S A s.heap H locs) (hC : sp_ctx D dA A G s s.heap) (hR : sp_rel D dA A M H) (hA : ∀ q, s.heap.size ≤ q → A q) : ∀ U : State, U.heap = H → s.WarmedH U.vm → sp_Pc D dA A G as M as.toArray U :=
  fun U hU hW => ⟨rfl, sp_ctx_at hS hC hU hW, by rw [hU]; exact hR, fun q hq => hA q (Nat.le_trans hS.1 (by rw [hU] at hq; exact hq))⟩
theorem sp_isC_of {M : sp_M} {b k : Nat} (h : sp_isC M b k = true) : ∃ fs, M.2.2.2 b = some (.inr (k, fs)) := by
  unfold sp_isC at h
  split at h
  · rename_i cj fs hb
    have := of_decide_eq_true h
    subst this
    exact ⟨fs, hb⟩
  · cases h
theorem sp_ci_lt : ∀ e ∈ sp_T0, e.2.2.2.2.2.2.2.2.2 = 0 → e.2.2.2.2.2.1 < 7 := by decide +kernel
theorem sp_no_hh : ∀ e ∈ sp_T0, e.2.2.2.2.2.2.2.2.2 ≠ 1 → e.2.2.2.2.1 = [] := by decide +kernel
theorem sp_recv_of {y : Nat} {e : sp_E} {st : List Value} {M : sp_M} {v : Bool} {q : sp_C} (h : sp_recv y e st M v = some q) : ∃ b rest, q = .inr (y, .ref b :: (st.take e.2.2.2.2.2.2.1).reverse, rest) ∧ st = ((st.take e.2.2.2.2.2.2.1).reverse).reverse ++ .ref b :: rest ∧ ((st.take e.2.2.2.2.2.2.1).reverse).length = e.2.2.2.2.2.2.1 ∧ (v = true → ∃ fs, M.2.2.2 b = some (.inr (e.2.2.2.2.2.1, fs))) ∧ sp_sum rest ≤ 8 ∧ (sp_ea (.ref b :: (st.take e.2.2.2.2.2.2.1).reverse)).length ≤ e.2.2.1 := by
  unfold sp_recv at h
  split at h
  · rename_i b rest hd
    split at h
    · rename_i hc
      cases h
      obtain ⟨h1, h2, h3, h4⟩ := hc
      refine ⟨b, rest, rfl, ?_, ?_, fun hv => sp_isC_of (h1 hv), h2, h3⟩
      · rw [List.reverse_reverse, ← hd, List.take_append_drop]
      · simp; omega
    · cases h
  · cases h
theorem sp_fits_of {e e' : sp_E} (h : sp_fits e e' = true) : e'.2.2.2.2.2.2.2.1 + 1 ≤ e.2.2.2.2.2.2.2.1 ∧ 8 + (e'.2.2.1 + 11) + e'.2.2.2.2.2.2.2.2.1 ≤ e.2.2.2.2.2.2.2.2.1 := of_decide_eq_true h
theorem sp_ws_in {e : sp_E} (he : e ∈ sp_T0) : ∀ w ∈ sp_ws e, w ∈ sp_AW := fun w hw => by
  rcases List.mem_cons.mp hw with rfl | hw
  · exact sp_T_code _ (List.mem_map.mpr ⟨e, he, rfl⟩)
  · exact hw
/-- a call by the receiver's class -/
theorem sp_goV (IH : sp_Snd D dA A G n) {y pc idx : Nat} {e e' : sp_E} {st rest : List Value} {M M1 : sp_M} {r1 : sp_R} {b : Nat} {As : List Value} {ls : Array Slot} (hlt : l.stackTraces = false) (X : sp_cx p s m args meth c e.2.1 D dA A G e.2.2.2.2.2.1 (decide (e.2.2.2.2.2.2.2.2.2 = 2))) (hml : c.maxLocals = e.2.2.1) (hfr : e.2.2.2.2.2.2.2.1 ≤ R.frames) (hlo : e.2.2.2.2.2.2.2.2.1 ≤ R.locals) (hS : va_S A s.heap H locs) (hR : sp_rel D dA A M H) (hls : ls.size = e.2.2.1) (hdg : decode e.2.1 pc = .ok (.invokevirtual idx, 3))
    (hy : sp_fd sp_caT e.2.2.2.2.2.1 idx = some y) (he' : sp_T0[y]? = some e') (hk : e'.2.2.2.2.2.2.2.2.2 = 0) (hfit : sp_fits e e' = true) (hst : st = As.reverse ++ .ref b :: rest) (hlen : As.length = e'.2.2.2.2.2.2.1) (hobj : ∃ fs, M.2.2.2 b = some (.inr (e'.2.2.2.2.2.1, fs))) (hsum : sp_sum rest ≤ 8) (hea : (sp_ea (.ref b :: As)).length ≤ e'.2.2.1) (hex : sp_exec G n y 0 (sp_ent (sp_ml y) (.ref b :: As)) [] M = some (r1, M1))
    (hrc : cells + (M1.2.1 - M.2.1) ≤ R.cells) (hrs : slots + (M1.2.2.1 - M.2.2.1) ≤ R.slots)
    (kx : ∀ (E : String) (ce : Cell) (q9 : Addr) (H1 : Heap) (locs1 : List Loc), r1 = .inr E → sp_rel D dA A M1 H1 → va_S A s.heap H1 locs1 → H1[q9]? = some ce → ce.vm = .none → s.vm.findClass E = some ce.cls → vx_W p l e0 R s m args below meth c H1 locs1 (cells + (M1.2.1 - M.2.1)) (slots + (M1.2.2.1 - M.2.2.1)) Q (F0 m pc ls rest) q9)
    (kk : ∀ (v : Option Value) (H1 : Heap) (locs1 : List Loc), r1 = .inl v → sp_rel D dA A M1 H1 → va_S A s.heap H1 locs1 → W p l e0 R s m args below meth c H1 locs1 (cells + (M1.2.1 - M.2.1)) (slots + (M1.2.2.1 - M.2.2.1)) Q (F0 m (pc + 3) ls (v.toList ++ rest))) : W p l e0 R s m args below meth c H locs cells slots Q (F0 m pc ls st) := by
  obtain ⟨hx, hb, hown, hts, hC, -, hA⟩ := X
  obtain ⟨hT, hmem⟩ := sp_T_get he'
  obtain ⟨⟨-, hmh⟩, hpar, hcl, -⟩ := sp_T_ok e' hmem
  have hhh : e'.2.2.2.2.1 = [] := sp_no_hh e' hmem (by omega)
  obtain ⟨f1, f2⟩ := sp_fits_of hfit
  obtain ⟨fs, hfs⟩ := hobj
  have hm := sp_fd_mem hy
  have hnm : sp_nm y = e'.1 := by unfold sp_nm; rw [hT]
  have hlink : Cond.methodLink (sp_cls e.2.2.2.2.2.1) idx e'.1 ∈ sp_AW := by rw [← hnm]; exact sp_ca_in _ (List.mem_map.mpr ⟨_, hm, rfl⟩)
  have hkd : e' ∈ sp_T0.filter (fun e => decide (e.2.2.2.2.2.2.2.2.2 ≠ 1)) := List.mem_filter.mpr ⟨hmem, by rw [hk]; decide⟩
  have hkd0 : e' ∈ sp_T0.filter (fun e => decide (e.2.2.2.2.2.2.2.2.2 = 0)) := List.mem_filter.mpr ⟨hmem, by rw [hk]; decide⟩
  have hgood : GoodIn sp_AW (wsV (sp_cls e.2.2.2.2.2.1) idx e'.1.cls e'.1 (sp_ws e')) := sp_goodIn fun w hw => by
    unfold wsV at hw
    rcases List.mem_append.mp hw with hw | hw
    · simp only [List.mem_cons, List.not_mem_nil, or_false] at hw
      rcases hw with rfl | rfl | rfl | rfl
      · exact hlink
      · exact sp_T_inst _ (List.mem_map.mpr ⟨e', hkd, rfl⟩)
      · exact sp_T_sel _ (List.mem_map.mpr ⟨e', hkd0, rfl⟩)
      · exact sp_T_ini _ (List.mem_map.mpr ⟨e', hmem, rfl⟩)
    · exact sp_ws_in hmem w hw
  have hM := sp_met IH he' hex hea hlt
  have c1 := (sp_cl (sp_ci_lt e' hmem hk)).1
  have hrecv := va_recv hC.1 (sp_at1 (hR.2 b _ hfs).2) (ci := e'.2.2.2.2.2.1) (q0 := 0) c1 rfl
  rw [show (sp_cls e'.2.2.2.2.2.1, sp_Tf e'.2.2.2.2.2.1, sp_N e'.2.2.2.2.2.1).1 = e'.1.cls from hcl.symm] at hrecv
  refine sp_call_end (vx_runV (bytes := e'.2.1) (maxL := e'.2.2.1) (ret := e'.2.2.2.1) (n := e'.2.2.2.2.2.2.1) (Ts := sp_AW) ⟨hx, hb, hml, hown, hts⟩ hM (cwV (C := e'.1.cls) (ws' := sp_AW) _ hts hgood (by unfold sp_ws sp_code; rw [if_pos hhh]) rfl rfl ⟨rfl, hmh.1, hmh.2, hpar⟩ ⟨by show e'.2.2.2.2.2.2.2.1 + 1 ≤ R.frames; omega, by show 8 + (e'.2.2.1 + 11) + e'.2.2.2.2.2.2.2.2.1 ≤ R.locals; omega⟩) ⟨sp_Pc_blind, hrecv, sp_Pc_at hS hC hR hA⟩ rfl hlen hls hst (by show 2 * 0 + _ ≤ 8; rw [Nat.mul_zero, Nat.zero_add]; exact hsum) hdg ⟨hrc, hrs⟩) hS kx kk
/-- a static call -/
theorem sp_goS (IH : sp_Snd D dA A G n) {y pc idx : Nat} {e e' : sp_E} {st rest : List Value} {M M1 : sp_M} {r1 : sp_R} {As : List Value} {ls : Array Slot} (hlt : l.stackTraces = false) (X : sp_cx p s m args meth c e.2.1 D dA A G e.2.2.2.2.2.1 (decide (e.2.2.2.2.2.2.2.2.2 = 2))) (hml : c.maxLocals = e.2.2.1) (hfr : e.2.2.2.2.2.2.2.1 ≤ R.frames) (hlo : e.2.2.2.2.2.2.2.2.1 ≤ R.locals) (hS : va_S A s.heap H locs) (hR : sp_rel D dA A M H) (hls : ls.size = e.2.2.1) (hdg : decode e.2.1 pc = .ok (.invokestatic idx, 3))
    (hy : sp_fd sp_caT e.2.2.2.2.2.1 idx = some y) (he' : sp_T0[y]? = some e') (hk : e'.2.2.2.2.2.2.2.2.2 = 1) (hcc : e'.2.2.2.2.2.1 = e.2.2.2.2.2.1) (hfit : sp_fits e e' = true) (hst : st = As.reverse ++ rest) (hlen : As.length = e'.2.2.2.2.2.2.1) (hsum : sp_sum rest ≤ 8) (hea : (sp_ea As).length ≤ e'.2.2.1) (hex : sp_exec G n y 0 (sp_ent (sp_ml y) As) [] M = some (r1, M1))
    (hrc : cells + (M1.2.1 - M.2.1) ≤ R.cells) (hrs : slots + (M1.2.2.1 - M.2.2.1) ≤ R.slots)
    (kx : ∀ (E : String) (ce : Cell) (q9 : Addr) (H1 : Heap) (locs1 : List Loc), r1 = .inr E → sp_rel D dA A M1 H1 → va_S A s.heap H1 locs1 → H1[q9]? = some ce → ce.vm = .none → s.vm.findClass E = some ce.cls → vx_W p l e0 R s m args below meth c H1 locs1 (cells + (M1.2.1 - M.2.1)) (slots + (M1.2.2.1 - M.2.2.1)) Q (F0 m pc ls rest) q9)
    (kk : ∀ (v : Option Value) (H1 : Heap) (locs1 : List Loc), r1 = .inl v → sp_rel D dA A M1 H1 → va_S A s.heap H1 locs1 → W p l e0 R s m args below meth c H1 locs1 (cells + (M1.2.1 - M.2.1)) (slots + (M1.2.2.1 - M.2.2.1)) Q (F0 m (pc + 3) ls (v.toList ++ rest))) : W p l e0 R s m args below meth c H locs cells slots Q (F0 m pc ls st) := by
  obtain ⟨hx, hb, hown, hts, hC, -, hA⟩ := X
  obtain ⟨hT, hmem⟩ := sp_T_get he'
  obtain ⟨⟨-, hmh⟩, hpar, hcl, -⟩ := sp_T_ok e' hmem
  obtain ⟨f1, f2⟩ := sp_fits_of hfit
  have hm := sp_fd_mem hy
  have hnm : sp_nm y = e'.1 := by unfold sp_nm; rw [hT]
  have hlink : Cond.methodLink (sp_cls e.2.2.2.2.2.1) idx e'.1 ∈ sp_AW := by rw [← hnm]; exact sp_ca_in _ (List.mem_map.mpr ⟨_, hm, rfl⟩)
  have hkd : e' ∈ sp_T0.filter (fun e => decide (e.2.2.2.2.2.2.2.2.2 = 1)) := List.mem_filter.mpr ⟨hmem, by rw [hk]; decide⟩
  have hgood : GoodIn sp_AW (va_wsS (sp_cls e.2.2.2.2.2.1) idx e'.1 (sp_ws e')) := sp_goodIn fun w hw => by
    unfold va_wsS at hw
    rcases List.mem_append.mp hw with hw | hw
    · simp only [List.mem_cons, List.not_mem_nil, or_false] at hw
      rcases hw with rfl | rfl | rfl
      · exact hlink
      · exact sp_T_stat _ (List.mem_map.mpr ⟨e', hkd, rfl⟩)
      · exact sp_T_ini _ (List.mem_map.mpr ⟨e', hmem, rfl⟩)
    · exact sp_ws_in hmem w hw
  have hM := sp_met IH he' hex hea hlt
  by_cases hhh : e'.2.2.2.2.1 = []
  · exact sp_call_end (vx_runS (bytes := e'.2.1) (maxL := e'.2.2.1) (ret := e'.2.2.2.1) (n := e'.2.2.2.2.2.2.1) (Ts := sp_AW) ⟨hx, hb, hml, hown, hts⟩ hM (va_cwS (ws' := sp_AW) _ hts hgood (by unfold sp_ws sp_code; rw [if_pos hhh]) rfl rfl ⟨hmh.1, hmh.2, hpar⟩ ⟨by show e'.2.2.2.2.2.2.2.1 + 1 ≤ R.frames; omega, by show 8 + (e'.2.2.1 + 11) + e'.2.2.2.2.2.2.2.2.1 ≤ R.locals; omega⟩) ⟨sp_Pc_blind, sp_Pc_at hS hC hR hA⟩ rfl hlen hls hst (by show 2 * 0 + _ ≤ 8; rw [Nat.mul_zero, Nat.zero_add]; exact hsum) hdg ⟨hrc, hrs⟩) hS kx kk
  · exact sp_call_end (vx_runSX (bytes := e'.2.1) (maxL := e'.2.2.1) (ret := e'.2.2.2.1) (hh := e'.2.2.2.2.1) (n := e'.2.2.2.2.2.2.1) (Ts := sp_AW) ⟨hx, hb, hml, hown, hts⟩ hM (vx_cwSW (ws' := sp_AW) _ hts hgood (by unfold sp_ws sp_code; rw [if_neg hhh]) rfl rfl ⟨hmh.1, hmh.2, hpar⟩ ⟨by show e'.2.2.2.2.2.2.2.1 + 1 ≤ R.frames; omega, by show 8 + (e'.2.2.1 + 11) + e'.2.2.2.2.2.2.2.2.1 ≤ R.locals; omega⟩) ⟨sp_Pc_blind, sp_Pc_at hS hC hR hA⟩ rfl hlen hls hst (by show 2 * 0 + _ ≤ 8; rw [Nat.mul_zero, Nat.zero_add]; exact hsum) hdg ⟨hrc, hrs⟩) hS kx kk
/-- a constructor's call -/
theorem sp_goI (IH : sp_Snd D dA A G n) {y pc idx : Nat} {e e' : sp_E} {st rest : List Value} {M M1 : sp_M} {v1 : Option Value} {b : Nat} {As : List Value} {ls : Array Slot} (hlt : l.stackTraces = false) (X : sp_cx p s m args meth c e.2.1 D dA A G e.2.2.2.2.2.1 (decide (e.2.2.2.2.2.2.2.2.2 = 2))) (hml : c.maxLocals = e.2.2.1) (hfr : e.2.2.2.2.2.2.2.1 ≤ R.frames) (hlo : e.2.2.2.2.2.2.2.2.1 ≤ R.locals) (hS : va_S A s.heap H locs) (hR : sp_rel D dA A M H) (hls : ls.size = e.2.2.1) (hdg : decode e.2.1 pc = .ok (.invokespecial idx, 3))
    (hy : (sp_fd sp_caT e.2.2.2.2.2.1 idx).or (sp_fd sp_cnT e.2.2.2.2.2.1 idx) = some y) (he' : sp_T0[y]? = some e') (hk : e'.2.2.2.2.2.2.2.2.2 = 2) (hhh : e'.2.2.2.2.1 = []) (hfit : sp_fits e e' = true) (hst : st = As.reverse ++ .ref b :: rest) (hlen : As.length = e'.2.2.2.2.2.2.1) (hsum : sp_sum rest ≤ 8) (hea : (sp_ea (.ref b :: As)).length ≤ e'.2.2.1) (hex : sp_exec G n y 0 (sp_ent (sp_ml y) (.ref b :: As)) [] M = some (.inl v1, M1))
    (hrc : cells + (M1.2.1 - M.2.1) ≤ R.cells) (hrs : slots + (M1.2.2.1 - M.2.2.1) ≤ R.slots)
    (kk : ∀ (H1 : Heap) (locs1 : List Loc), sp_rel D dA A M1 H1 → va_S A s.heap H1 locs1 → W p l e0 R s m args below meth c H1 locs1 (cells + (M1.2.1 - M.2.1)) (slots + (M1.2.2.1 - M.2.2.1)) Q (F0 m (pc + 3) ls (v1.toList ++ rest))) : W p l e0 R s m args below meth c H locs cells slots Q (F0 m pc ls st) := by
  obtain ⟨hx, hb, hown, hts, hC, -, hA⟩ := X
  obtain ⟨hT, hmem⟩ := sp_T_get he'
  obtain ⟨⟨-, hmh⟩, hpar, hcl, hkind⟩ := sp_T_ok e' hmem
  obtain ⟨hname, hret⟩ := hkind hk
  obtain ⟨f1, f2⟩ := sp_fits_of hfit
  have hnm : sp_nm y = e'.1 := by unfold sp_nm; rw [hT]
  have hkd : e' ∈ sp_T0.filter (fun e => decide (e.2.2.2.2.2.2.2.2.2 ≠ 1)) := List.mem_filter.mpr ⟨hmem, by rw [hk]; decide⟩
  have hinst : (Cond.instanceMethod e'.1).before args s = true := hts _ (sp_T_inst _ (List.mem_map.mpr ⟨e', hkd, rfl⟩))
  have hini : (Cond.initialized e'.1.cls).before args s = true := hts _ (sp_T_ini _ (List.mem_map.mpr ⟨e', hmem, rfl⟩))
  have hgood : GoodIn sp_AW (sp_ws e') := sp_goodIn (sp_ws_in hmem)
  have hM := sp_metI IH he' hex hea hhh hlt
  have hw : sp_ws e' = Cond.code e'.1 e'.2.1 e'.2.2.1 none :: sp_AW := by unfold sp_ws sp_code; rw [if_pos hhh, hret]
  have hRR : (sp_rmE e' M M1).frames + 1 ≤ R.frames ∧ 8 + (e'.2.2.1 + 11) + (sp_rmE e' M M1).locals ≤ R.locals := ⟨by show e'.2.2.2.2.2.2.2.1 + 1 ≤ R.frames; omega, by show 8 + (e'.2.2.1 + 11) + e'.2.2.2.2.2.2.2.2.1 ≤ R.locals; omega⟩
  rcases Option.or_eq_some_iff.mp hy with hy | ⟨-, hy⟩
  · have hm := sp_fd_mem hy
    have hlink : (Cond.methodLink (sp_cls e.2.2.2.2.2.1) idx e'.1).before args s = true := by rw [← hnm]; exact hts _ (sp_ca_in _ (List.mem_map.mpr ⟨_, hm, rfl⟩))
    exact sp_call_endI (va_runI (bytes := e'.2.1) (maxL := e'.2.2.1) (n := e'.2.2.2.2.2.2.1) (Ts := sp_AW) ⟨hx, hb, hml, hown, hts⟩ hM ⟨callB_of _ hts hgood hw rfl rfl hini hlink ⟨hmh.1, hmh.2, hpar⟩ hRR, hname, hinst⟩ ⟨sp_Pc_blind, sp_Pc_at hS hC hR hA⟩ rfl hlen hls hst (by show 2 * 0 + _ ≤ 8; rw [Nat.mul_zero, Nat.zero_add]; exact hsum) hdg ⟨hrc, hrs⟩) hS kk
  · have hm := sp_fd_mem hy
    have hlink : va_Nw (Cond.methodLinkNest (sp_cls e.2.2.2.2.2.1) idx e'.1 "SewingPiles") s := by rw [← hnm]; exact hC.2.1 _ (sp_cn_in _ (List.mem_map.mpr ⟨_, hm, rfl⟩)) rfl
    exact sp_call_endI (va_runIN (bytes := e'.2.1) (n := e'.2.2.2.2.2.2.1) (Ts := sp_AW) ⟨hx, hb, hml, hown, hts⟩ hM ⟨va_cnB _ hts hgood hw rfl rfl hlink hini ⟨hmh.1, hmh.2, hpar⟩ hRR, hname, hinst⟩ ⟨sp_Pc_blind, sp_Pc_at hS hC hR hA⟩ rfl hlen hls hst (by show 2 * 0 + _ ≤ 8; rw [Nat.mul_zero, Nat.zero_add]; exact hsum) hdg ⟨hrc, hrs⟩) hS kk
theorem sp_ob1 : Cond.instanceMethod objectInit ∈ sp_AW := sp_ob_in _ (by simp)
theorem sp_ob2 : Cond.code objectInit ⟨#[0xb1]⟩ 1 none ∈ sp_AW := sp_ob_in _ (by simp)
theorem sp_rel_thaw {M : sp_M} (h : sp_rel D dA A M H) {H1 : Heap} (hk : ∀ q : Nat, q < H.size → H1[q]? = H[q]?) : sp_rel D dA A (none, M.2.1, M.2.2.1, M.2.2.2) H1 :=
  ⟨fun z hz => (nomatch hz), fun a e ha => ⟨(h.2 a e ha).1, (h.2 a e ha).2.kept (hk a (h.2 a e ha).2.lt)⟩⟩
/-- Object's constructor, the bits of a double or a float -/
theorem sp_goL {pc len : Nat} {e : sp_E} {st st' : List Value} {M M' : sp_M} {i : Instr} {ls : Array Slot} (X : sp_cx p s m args meth c e.2.1 D dA A G e.2.2.2.2.2.1 (decide (e.2.2.2.2.2.2.2.2.2 = 2))) (hml : c.maxLocals = e.2.2.1) (hfr : e.2.2.2.2.2.2.2.1 ≤ R.frames) (hlo : e.2.2.2.2.2.2.2.2.1 ≤ R.locals) (hS : va_S A s.heap H locs) (hR : sp_rel D dA A M H) (hls : ls.size = e.2.2.1) (hdg : decode e.2.1 pc = .ok (i, len)) (h : sp_call e i len st M = some (.inl (st', M'))) (hcr : cells ≤ R.cells ∧ slots ≤ R.slots)
    (kk : ∀ (H1 : Heap) (locs1 : List Loc), sp_rel D dA A M' H1 → va_S A s.heap H1 locs1 → W p l e0 R s m args below meth c H1 locs1 cells slots Q (F0 m (pc + 3) ls st')) : W p l e0 R s m args below meth c H locs cells slots Q (F0 m pc ls st) := by
  obtain ⟨hx, hb, hown, hts, hC, -, hA⟩ := X
  unfold sp_call at h
  split at h
  · unfold sp_calV at h
    split at h
    · cases h
    · split at h
      · cases h
      · split at h
        · obtain ⟨b, rest, hq, -⟩ := sp_recv_of h; cases hq
        · cases h
  · unfold sp_calI at h
    split at h
    · rename_i hob
      split at h
      · rename_i a rest
        split at h
        · rename_i hc
          cases h
          have hm := sp_fd_mem hob
          refine W.objInit hx hb hown (hts _ (sp_co_in _ (List.mem_map.mpr ⟨_, hm, rfl⟩))) (hts _ sp_ob1) (hts _ sp_ob2) (g := F0 m pc ls (.ref a :: _)) rfl (by rw [hml]; exact hls) rfl hdg (by omega) ?_ ?_
          · have h8 := hc.1
            have h24 := hc.2.2
            show 2 * 0 + sp_sum _ + 12 ≤ R.locals
            omega
          · exact kk H locs hR hS
        · cases h
      · cases h
    · split at h
      · cases h
      · split at h
        · cases h
        · split at h
          · obtain ⟨b, rest, hq, -⟩ := sp_recv_of h; cases hq
          · cases h
  · unfold sp_calS at h
    split at h
    · rename_i idx xo k hjd
      have hm := sp_fd_mem hjd
      split at h
      · rename_i x rest
        split at h
        · rename_i hc
          cases h
          obtain ⟨h0, h8, hf4, hl9⟩ := hc
          have hcn : e.2.2.2.2.2.1 = 6 ∧ idx = 216 := by
            simp only [sp_cjT, List.mem_cons, Prod.mk.injEq, List.not_mem_nil, or_false] at hm
            omega
          have hown6 : s.vm.findClass RX6 = some m.cls := by rw [hcn.1] at hown; exact hown
          obtain ⟨-, rfl⟩ := hcn
          refine va_calll (a := [Value.double x].toArray) (va_runS (As := [.double x]) (index := 216) (Ts := sp_AW) ⟨hx, hb, hml, hown6, hts⟩ (sp_m_d l x h0) (va_cwS 1 hts (sp_goodIn (fun w hw => by
              simp only [va_wsS, List.cons_append, List.nil_append, List.mem_cons] at hw
              rcases hw with rfl | rfl | rfl | rfl | hw
              · exact sp_jw 9 rfl
              · exact sp_jw 8 rfl
              · exact sp_jw 7 rfl
              · exact sp_jw 0 rfl
              · exact hw)) rfl rfl rfl (by decide +kernel) ⟨by show 2 + 1 ≤ R.frames; omega, by show 8 + (2 + 11) + 50 ≤ R.locals; omega⟩) ⟨fun a U g mk q => q, fun U hU hW => ⟨rfl, trivial⟩⟩ rfl rfl hls rfl (by show 2 * 0 + sp_sum _ ≤ 8; rw [Nat.mul_zero, Nat.zero_add]; exact h8) hdg hcr) hS (fun q _ h => h.elim) (fun q h => h.elim) (fun r u t H1 locs ht hvm hw hB hz1 hk1 hS1 => ?_)
          have hw : r = x.toInt64 := hw
          subst hw
          exact kk H1 locs (sp_rel_thaw hR (fun q hq => hk1 q hq (fun z => z))) hS1
        · cases h
      · rename_i x rest
        split at h
        · rename_i hc
          cases h
          obtain ⟨h0, h8, hf4, hl9⟩ := hc
          have hcn : e.2.2.2.2.2.1 = 6 ∧ idx = 222 := by
            simp only [sp_cjT, List.mem_cons, Prod.mk.injEq, List.not_mem_nil, or_false] at hm
            omega
          have hown6 : s.vm.findClass RX6 = some m.cls := by rw [hcn.1] at hown; exact hown
          obtain ⟨-, rfl⟩ := hcn
          refine va_calli (a := [Value.float x].toArray) (va_runS (As := [.float x]) (index := 222) (Ts := sp_AW) ⟨hx, hb, hml, hown6, hts⟩ (sp_m_f l x h0) (va_cwS 1 hts (sp_goodIn (fun w hw => by
              simp only [va_wsS, List.cons_append, List.nil_append, List.mem_cons] at hw
              rcases hw with rfl | rfl | rfl | rfl | hw
              · exact sp_jw 19 rfl
              · exact sp_jw 18 rfl
              · exact sp_jw 17 rfl
              · exact sp_jw 10 rfl
              · exact hw)) rfl rfl rfl (by decide +kernel) ⟨by show 2 + 1 ≤ R.frames; omega, by show 8 + (1 + 11) + 50 ≤ R.locals; omega⟩) ⟨fun a U g mk q => q, fun U hU hW => ⟨rfl, trivial⟩⟩ rfl rfl hls rfl (by show 2 * 0 + sp_sum _ ≤ 8; rw [Nat.mul_zero, Nat.zero_add]; exact h8) hdg hcr) hS (fun q _ h => h.elim) (fun q h => h.elim) (fun r u t H1 locs ht hvm hw hB hz1 hk1 hS1 => ?_)
          have hw : r = x.toInt32 := hw
          subst hw
          exact kk H1 locs (sp_rel_thaw hR (fun q hq => hk1 q hq (fun z => z))) hS1
        · cases h
      · cases h
    · split at h
      · cases h
      · split at h
        · cases h
        · split at h <;> cases h
  · cases h
end SPF
end
section
/-! ===== soundness, whole ===== -/
section SPG
variable {D : va_G} {dA : Nat → ClassId} {A : Nat → Prop} {G : sp_G} {n : Nat}
variable {p : Program} {l : Launch} {e0 : Env} {R : Room} {s : State} {m : MethodId} {args : Array Value} {below : List Frame} {meth : Method} {c : Code} {H : Heap} {locs : List Loc} {cells slots : Nat} {Q : State → Prop}
theorem sp_covers (q : Nat × Nat × Nat × Nat) (pc : Nat) : covers ⟨q.1, q.2.1, q.2.2.1, q.2.2.2⟩ pc = sp_cov q pc := rfl
theorem sp_hh_all : ∀ e ∈ sp_T, ∀ q ∈ e.2.2.2.2.1, e.2.2.2.2.2.1 = 7 ∧ (sp_fd sp_ctT 7 q.2.2.2).isSome = true ∧ q.2.2.2 ≠ 0 := by decide +kernel
theorem sp_pass {e : sp_E} (he : e ∈ sp_T) {cc : ByteArray} {ini : Bool} (X : sp_cx p s m args meth c cc D dA A G e.2.2.2.2.2.1 ini) {pc : Nat} {E : String} (hE : E ∈ sp_ex) {hh : List (Nat × Nat × Nat × Nat)} (hsub : ∀ q ∈ hh, q ∈ e.2.2.2.2.1) (hno : ∀ q ∈ hh, (sp_cov q pc && decide (sp_fd sp_ctT 7 q.2.2.2 = some E)) = false) :
    ∀ z ∈ tableOf hh, covers z pc = false ∨ (z.catchType ≠ 0 ∧ ∃ nm : String, (Cond.classLink (sp_cls e.2.2.2.2.2.1) z.catchType nm).before args s = true ∧ va_Nc E nm s) := by
  intro z hz
  obtain ⟨q, hq, rfl⟩ := List.mem_map.mp hz
  obtain ⟨h7, hsm, h0⟩ := sp_hh_all e he q (hsub q hq)
  have := hno q hq
  rw [Bool.and_eq_false_iff] at this
  rcases this with h | h
  · exact Or.inl ((sp_covers q pc).trans h)
  · refine Or.inr ⟨h0, ?_⟩
    obtain ⟨nm, hnm⟩ := Option.isSome_iff_exists.mp hsm
    have hne : nm ≠ E := fun q2 => by
      subst q2
      exact (of_decide_eq_false h) hnm
    have hm := sp_fd_mem hnm
    refine ⟨nm, ?_, X.2.2.2.2.1.2.2.2.2.1 E hE nm (sp_ct_ex _ hm) (Ne.symm hne)⟩
    rw [h7]
    exact X.2.2.2.1 _ (sp_ct_in _ (List.mem_map.mpr ⟨_, hm, rfl⟩))
theorem sp_s1_ex {L : sp_L} {k : Nat} {v : Value} (h : k < L.length) : ∃ L2, sp_s1 L k v = some L2 ∧ ∀ (j : Nat) (w : Value), sp_ld (sp_clr L k) j = some w → sp_ld L2 j = some w := by
  refine ⟨(sp_fix L k).set k (some v), by unfold sp_s1; rw [if_pos h], fun j w hw => ?_⟩
  unfold sp_clr at hw
  rw [sp_ld_iff] at hw ⊢
  by_cases hj : j = k
  · subst hj
    rw [List.getElem?_set_self'] at hw
    cases hx : (sp_fix L j)[j]? with
    | none => rw [hx] at hw; simp at hw
    | some o => rw [hx] at hw; simp at hw
  · rw [List.getElem?_set_ne (Ne.symm hj)] at hw ⊢
    exact hw
theorem sp_clr_len (L : sp_L) (k : Nat) : (sp_clr L k).length = L.length := by unfold sp_clr; rw [List.length_set, sp_fix_len]
/-- any call -/
theorem sp_goC (IH : sp_Snd D dA A G n) {y pc len : Nat} {e : sp_E} {st rest as : List Value} {M M1 : sp_M} {r1 : sp_R} {ls : Array Slot} {i : Instr} (hlt : l.stackTraces = false) (X : sp_cx p s m args meth c e.2.1 D dA A G e.2.2.2.2.2.1 (decide (e.2.2.2.2.2.2.2.2.2 = 2))) (hml : c.maxLocals = e.2.2.1) (hfr : e.2.2.2.2.2.2.2.1 ≤ R.frames) (hlo : e.2.2.2.2.2.2.2.2.1 ≤ R.locals) (hS : va_S A s.heap H locs) (hR : sp_rel D dA A M H) (hls : ls.size = e.2.2.1) (hdg : decode e.2.1 pc = .ok (i, len))
    (h : sp_call e i len st M = some (.inr (y, as, rest))) (hex : sp_exec G n y 0 (sp_ent (sp_ml y) as) [] M = some (r1, M1)) (hr1 : ∀ E, r1 = .inr E → sp_kd y ≠ 2)
    (hrc : cells + (M1.2.1 - M.2.1) ≤ R.cells) (hrs : slots + (M1.2.2.1 - M.2.2.1) ≤ R.slots)
    (kx : ∀ (E : String) (ce : Cell) (q9 : Addr) (H1 : Heap) (locs1 : List Loc), r1 = .inr E → sp_rel D dA A M1 H1 → va_S A s.heap H1 locs1 → H1[q9]? = some ce → ce.vm = .none → s.vm.findClass E = some ce.cls → vx_W p l e0 R s m args below meth c H1 locs1 (cells + (M1.2.1 - M.2.1)) (slots + (M1.2.2.1 - M.2.2.1)) Q (F0 m pc ls rest) q9)
    (kk : ∀ (v : Option Value) (H1 : Heap) (locs1 : List Loc), r1 = .inl v → sp_rel D dA A M1 H1 → va_S A s.heap H1 locs1 → W p l e0 R s m args below meth c H1 locs1 (cells + (M1.2.1 - M.2.1)) (slots + (M1.2.2.1 - M.2.2.1)) Q (F0 m (pc + 3) ls (v.toList ++ rest))) : W p l e0 R s m args below meth c H locs cells slots Q (F0 m pc ls st) := by
  unfold sp_call at h
  split at h
  · unfold sp_calV at h
    split at h
    · cases h
    · rename_i y' hy
      split at h
      · cases h
      · rename_i e' he'
        split at h
        · rename_i hc
          obtain ⟨b, rest', hq, hst, hlen, hobj, hsum, hea⟩ := sp_recv_of h
          cases hq
          exact sp_goV IH hlt X hml hfr hlo hS hR hls hdg hy he' hc.1 hc.2 hst hlen (hobj rfl) hsum hea hex hrc hrs kx kk
        · cases h
  · unfold sp_calI at h
    split at h
    · split at h
      · split at h <;> cases h
      · cases h
    · split at h
      · cases h
      · rename_i y' hy
        split at h
        · cases h
        · rename_i e' he'
          split at h
          · rename_i hc
            obtain ⟨b, rest', hq, hst, hlen, hobj, hsum, hea⟩ := sp_recv_of h
            cases hq
            cases r1 with
            | inr E => exact absurd ((sp_kd_of he').trans hc.1) (hr1 E rfl)
            | inl v => exact sp_goI IH hlt X hml hfr hlo hS hR hls hdg hy he' hc.1 hc.2.2 hc.2.1 hst hlen hsum hea hex hrc hrs (fun H1 locs1 h1 h2 => kk v H1 locs1 rfl h1 h2)
          · cases h
  · unfold sp_calS at h
    split at h
    · split at h
      · split at h <;> cases h
      · split at h <;> cases h
      · cases h
    · split at h
      · cases h
      · rename_i y' hy
        split at h
        · cases h
        · rename_i e' he'
          split at h
          · rename_i hc
            cases h
            obtain ⟨h1, h2, h3, h4, h5, h6⟩ := hc
            exact sp_goS IH hlt X hml hfr hlo hS hR hls hdg hy he' h1 h2 h3 (by rw [List.reverse_reverse, List.take_append_drop]) (by simp; omega) h4 h5 hex hrc hrs kx kk
          · cases h
  · cases h
set_option maxHeartbeats 4000000 in
theorem sp_sound (D : va_G) (dA : Nat → ClassId) (A : Nat → Prop) (G : sp_G) : ∀ n, sp_Snd D dA A G n := by
  intro n
  induction n with
  | zero => intro y pc L st M r M' h; cases h
  | succ n ih =>
    intro y pc L st M r M' h p l e0 R s m args below meth c H locs cells slots Q ls c0 s0 e hlt hT X hml htab hfr hlo hS hR hls hc hs hrc hrs HRet HOut HThr
    have step : ∀ (pc2 : Nat) (L2 : sp_L) (st2 : List Value) (M2 : sp_M) (H2 : Heap) (locs2 : List Loc) (cells2 slots2 : Nat) (ls2 : Array Slot), sp_exec G n y pc2 L2 st2 M2 = some (r, M') → sp_rel D dA A M2 H2 → va_S A s.heap H2 locs2 → sp_lr ls2 e.2.2.1 L2 → M2.2.1 = c0 + cells2 → M2.2.2.1 = s0 + slots2 → W p l e0 R s m args below meth c H2 locs2 cells2 slots2 Q (F0 m pc2 ls2 st2) :=
      fun pc2 L2 st2 M2 H2 locs2 cells2 slots2 ls2 hex hR2 hS2 hl2 h1 h2 => ih y pc2 L2 st2 M2 r M' hex p l e0 R s m args below meth c H2 locs2 cells2 slots2 Q ls2 c0 s0 e hlt hT X hml htab hfr hlo hS2 hR2 hl2 h1 h2 hrc hrs HRet HOut HThr
    have heT : e ∈ sp_T := List.mem_of_getElem? hT
    unfold sp_exec at h
    rw [hT] at h
    dsimp only at h
    split at h
    · rename_i q hq
      split at h
      · rename_i hsum
        cases h
        exact HThr q pc ls st H locs cells slots M hq rfl rfl hsum hR hS hc hs (hls.1.trans hml.symm)
      · cases h
    · split at h
      · cases h
      · rename_i i len hd
        split at h
        · split at h
          · cases h
          · rename_i L' st' hh
            exact sp_loc_sound X.1 X.2.1 hd hh hls (fun ls' hl' => step _ _ _ _ _ _ _ _ _ h hR hS hl' hc hs)
        · split at h
          · cases h
          · rename_i st' hh
            exact sp_stk_sound X.1 X.2.1 hd hh (step _ _ _ _ _ _ _ _ _ h hR hS hls hc hs)
        · split at h
          · cases h
          · rename_i st' hh
            exact sp_cst_sound X hd hh (step _ _ _ _ _ _ _ _ _ h hR hS hls hc hs)
        · split at h
          · cases h
          · rename_i pc' st' hh
            exact sp_jmp_sound X.1 X.2.1 hd hh (step _ _ _ _ _ _ _ _ _ h hR hS hls hc hs)
        · split at h
          · cases h
          · rename_i st' M2 hh
            have hmo := sp_exec_mono G _ _ _ _ _ _ _ _ h
            exact sp_hp_sound X hS hR hd hh (fun dc ds h1 h2 => ⟨by omega, by omega⟩) (fun H1 locs1 dc ds hrel hS1 h1 h2 => step _ _ _ _ _ _ _ _ _ h hrel hS1 hls (by omega) (by omega))
        · split at h
          · cases h
          · rename_i v hh
            cases h
            exact HRet v pc ls st H locs cells slots i len rfl hd hh hR hS hc hs
        · split at h
          · cases h
          · rename_i st' M2 hh
            obtain ⟨m1, m2⟩ := sp_call_mono hh
            have hmo := sp_exec_mono G _ _ _ _ _ _ _ _ h
            exact sp_goL X hml hfr hlo hS hR hls.1 hd hh ⟨by omega, by omega⟩ (fun H1 locs1 hrel hS1 => step _ _ _ _ _ _ _ _ _ h hrel hS1 hls (by omega) (by omega))
          · rename_i y' as rest hh
            split at h
            · cases h
            · rename_i v M1 hex
              have hm1 := sp_exec_mono G _ _ _ _ _ _ _ _ hex
              have hmo := sp_exec_mono G _ _ _ _ _ _ _ _ h
              refine sp_goC ih hlt X hml hfr hlo hS hR hls.1 hd hh hex (fun E hE => by cases hE) (by omega) (by omega) (fun E ce q9 H1 locs1 hE => by cases hE) (fun v' H1 locs1 hv hrel hS1 => ?_)
              cases hv
              exact step _ _ _ _ _ _ _ _ _ h hrel hS1 hls (by omega) (by omega)
            · rename_i E M1 hex
              have hm1 := sp_exec_mono G _ _ _ _ _ _ _ _ hex
              split at h
              · rename_i hE
                split at h
                · rename_i hnone
                  cases h
                  refine sp_goC ih hlt X hml hfr hlo hS hR hls.1 hd hh hex (fun E' _ => hE.2) (by omega) (by omega) (fun E' ce q9 H1 locs1 hE' hrel hS1 k1 k2 k3 => ?_) (fun v' H1 locs1 hv => by cases hv)
                  cases hE'
                  refine HOut E pc ls rest H1 locs1 _ _ q9 ce rfl hrel hS1 (by omega) (by omega) k1 k2 k3 ?_
                  rw [htab (Or.inr ⟨_, rfl⟩)]
                  refine sp_pass heT X hE.1 (fun q hq => hq) (fun q hq => ?_)
                  unfold sp_hdl at hnone
                  rw [Option.map_eq_none_iff, List.find?_eq_none] at hnone
                  exact Bool.eq_false_iff.mpr (hnone q hq)
                · rename_i hp hhdl
                  split at h
                  · cases h
                  · rename_i k ln hst
                    split at h
                    · rename_i hkL
                      have hmo := sp_exec_mono G _ _ _ _ _ _ _ _ h
                      refine sp_goC ih hlt X hml hfr hlo hS hR hls.1 hd hh hex (fun E' _ => hE.2) (by omega) (by omega) (fun E' ce q9 H1 locs1 hE' hrel hS1 k1 k2 k3 => ?_) (fun v' H1 locs1 hv => by cases hv)
                      cases hE'
                      unfold sp_hdl at hhdl
                      obtain ⟨q, hfind, hq⟩ := Option.map_eq_some_iff.mp hhdl
                      obtain ⟨hpq, pre, suf, hsplit, hpre⟩ := List.find?_eq_some_iff_append.mp hfind
                      rw [Bool.and_eq_true] at hpq
                      have hqm : q ∈ e.2.2.2.2.1 := by rw [hsplit]; simp
                      obtain ⟨h7, -, h0⟩ := sp_hh_all e heT q hqm
                      have hct := sp_fd_mem (of_decide_eq_true hpq.2)
                      have hlink : (Cond.classLink (sp_cls e.2.2.2.2.2.1) q.2.2.2 E).before args s = true := by
                        rw [h7]
                        exact X.2.2.2.1 _ (sp_ct_in _ (List.mem_map.mpr ⟨_, hct, rfl⟩))
                      have hcast : (Cond.castable E E).before args s = true := va_Nw.use rfl (X.2.2.2.2.1.2.1 _ (sp_ct_cast E hE.1) rfl)
                      refine vx_catch (own := sp_cls e.2.2.2.2.2.1) (name := E) X.2.2.1 (tableOf pre) ⟨q.1, q.2.1, q.2.2.1, q.2.2.2⟩ (tableOf suf) (by rw [htab (Or.inl (fun h0 => by rw [h0] at hqm; cases hqm)), hsplit]; simp [tableOf]) ?_ ((sp_covers q pc).trans hpq.1) h0 hlink hcast k1 k2 k3 ?_
                      · exact sp_pass heT X hE.1 (fun z hz => by rw [hsplit]; exact List.mem_append_left _ hz) (fun z hz => (Bool.not_eq_true' _).mp (hpre z hz))
                      · show W p l e0 R s m args below meth c H1 locs1 _ _ Q (F0 m q.2.2.1 ls [.ref q9])
                        rw [hq]
                        obtain ⟨L2, hL2, hsub⟩ := sp_s1_ex (L := L) (k := k) (v := .ref q9) hkL
                        have fin : ∀ ls', sp_lr ls' e.2.2.1 L2 → W p l e0 R s m args below meth c H1 locs1 (cells + (M1.2.1 - M.2.1)) (slots + (M1.2.2.1 - M.2.2.1)) Q (F0 m (hp + ln) ls' []) := fun ls' hl' =>
                          step _ _ _ _ _ _ _ _ _ h hrel hS1 ⟨hl'.1, hl'.2.1, (sp_clr_len L k).trans hls.2.2.1, fun j w hw => hl'.2.2.2 j w (hsub j w hw)⟩ (by omega) (by omega)
                        unfold sp_hst at hst
                        split at hst
                        · rename_i k' hdk
                          cases hst
                          exact sp_loc_sound X.1 X.2.1 hdk (L' := L2) (st' := []) (by show (sp_s1 L _ _).map _ = _; rw [hL2]; rfl) hls fin
                        · rename_i k' hdk
                          cases hst
                          exact sp_loc_sound X.1 X.2.1 hdk (L' := L2) (st' := []) (by show (sp_s1 L _ _).map _ = _; rw [hL2]; rfl) hls fin
                        · cases hst
                    · cases h
              · cases h
        · cases h
end SPG
end
section
/-! ===== the law's start: the statement's premises are the abstract machine's ===== -/
section SPH
theorem sp_nw_tabs {w : Cond} (h : sp_nwOK w = true) : w.onTables = true := by cases w <;> first | rfl | (exfalso; simp [sp_nwOK] at h)
theorem sp_str_ref {s : State} {a : Array Value} {k : Nat} {tx : String} (h1 : (Cond.stringRef RX5 k tx).before a s = true) (h2 : (Cond.exactly (.string RX5 k) "java/lang/String").before a s = true) : ∃ q, vk_R RX5 k tx q s := by
  obtain ⟨q, hq⟩ : ∃ q, (Term.string RX5 k).eval a s none [] s = some (.ref q) := by
    obtain ⟨q, _, _, _, hq, -⟩ := Cond.exactly_spec h2
    exact ⟨q, hq⟩
  exact ⟨q, vk_R.of h1 hq⟩
theorem sp_arr {s : State} {a : Array Value} {ty : FieldType} (h : (Cond.arrayClass ty).before a s = true) : ∃ cA, ArrOfT s cA ty ∧ s.vm.findClass ("[" ++ ty.toString) = some cA := by
  obtain ⟨cA, kA, comp, h1, h2, h3⟩ := Cond.arrayClass_spec h
  exact ⟨cA, fun n z => ⟨(fun k h => by cases h), kA, h2, comp, h3⟩, h1⟩
theorem sp_lays_tbl {n : Nat} {w : Cond} (h : w ∈ sp_AW) : w ∈ lw_tbl := (List.mem_filter.mp h).1
/-- what the law's start gives -/
theorem sp_start {s : State} {b L : Nat} {xs : Nat → Int32} (hts : ∀ w ∈ lw_tbl, w.before #[Value.ref b] s = true) (hX : va_X b L xs s s.heap) (hbl : b < s.heap.size) (hgv : (Jvm.Cond.and given_1 narrow_1).before #[Value.ref b] s = true) :
    ∃ (D : va_G) (dA : Nat → ClassId) (t1 t2 : Nat), t1 < s.heap.size ∧ t2 < s.heap.size ∧ sp_ctx D dA (fun q => s.heap.size ≤ q) (b, L, xs, t1, t2) s s.heap := by
  have hs := flat_of_before _ hgv
  have hA : ∀ a : Nat, a < s.heap.size → ¬ s.heap.size ≤ a := fun a h => Nat.not_le.mpr h
  have hin : ∀ ci, ci < 7 → ∀ w ∈ u_ws (sp_cls ci) (sp_Tf ci) (sp_N ci), w ∈ lw_tbl := fun ci h w hw => (List.mem_filter.mp ((sp_cl h).2.1 w hw)).1
  obtain ⟨c0, i0, k0⟩ := u_known (C := sp_cls 0) (T := sp_Tf 0) (N := sp_N 0) (n := 2) hts (hin 0 (by decide)) (hts _ (by decide +kernel))
  obtain ⟨c1, i1, k1⟩ := u_known (C := sp_cls 1) (T := sp_Tf 1) (N := sp_N 1) (n := 2) hts (hin 1 (by decide)) (hts _ (by decide +kernel))
  obtain ⟨c2, i2, k2⟩ := u_known (C := sp_cls 2) (T := sp_Tf 2) (N := sp_N 2) (n := 2) hts (hin 2 (by decide)) (hts _ (by decide +kernel))
  obtain ⟨c3, i3, k3⟩ := u_known (C := sp_cls 3) (T := sp_Tf 3) (N := sp_N 3) (n := 15) hts (hin 3 (by decide)) (hts _ (by decide +kernel))
  obtain ⟨c4, i4, k4⟩ := u_known (C := sp_cls 4) (T := sp_Tf 4) (N := sp_N 4) (n := 4) hts (hin 4 (by decide)) (hts _ (by decide +kernel))
  obtain ⟨c5, i5, k5⟩ := u_known (C := sp_cls 5) (T := sp_Tf 5) (N := sp_N 5) (n := 6) hts (hin 5 (by decide)) (hts _ (by decide +kernel))
  obtain ⟨c6, i6, k6⟩ := u_known (C := sp_cls 6) (T := sp_Tf 6) (N := sp_N 6) (n := 15) hts (hin 6 (by decide)) (hts _ (by decide +kernel))
  obtain ⟨a0, r0, f0⟩ := sp_arr (ty := .int) (hts _ (by decide +kernel))
  obtain ⟨a1, r1, f1⟩ := sp_arr (ty := .boolean) (hts _ (by decide +kernel))
  obtain ⟨a2, r2, f2⟩ := sp_arr (ty := .char) (hts _ (by decide +kernel))
  obtain ⟨a3, r3, f3⟩ := sp_arr (ty := .long) (hts _ (by decide +kernel))
  have hao : (Cond.arrayOver (.object RX3)).before #[Value.ref b] s = true := hts _ (by decide +kernel)
  have haoa : (Cond.arrayOver (.array .int)).before #[Value.ref b] s = true := hts _ (by decide +kernel)
  obtain ⟨m4, a4, kk4, g41, -, g42, g43, g44⟩ := Cond.arrayOver_spec hao
  obtain ⟨m5, a5, kk5, g51, -, g52, g53, g54⟩ := sp_overB haoa
  have hK : va_K (fun k => if k = 0 then c0 else if k = 1 then c1 else if k = 2 then c2 else if k = 3 then c3 else if k = 4 then c4 else if k = 5 then c5 else c6, fun k => if k = 0 then i0 else if k = 1 then i1 else if k = 2 then i2 else if k = 3 then i3 else if k = 4 then i4 else if k = 5 then i5 else i6) vwCl (sp_tys (fun k => if k = 0 then a0 else if k = 1 then a1 else if k = 2 then a2 else if k = 3 then a3 else if k = 4 then a4 else a5)) s := by
    refine ⟨fun k q hq => ?_, fun k q hq => ?_⟩
    · match k, hq with
      | 0, hq => cases hq; exact k0
      | 1, hq => cases hq; exact k1
      | 2, hq => cases hq; exact k2
      | 3, hq => cases hq; exact k3
      | 4, hq => cases hq; exact k4
      | 5, hq => cases hq; exact k5
      | 6, hq => cases hq; exact k6
      | k + 7, hq => simp [vwCl] at hq
    · match k, hq with
      | 0, hq => cases hq; exact ⟨r0, f0⟩
      | 1, hq => cases hq; exact ⟨r1, f1⟩
      | 2, hq => cases hq; exact ⟨r2, f2⟩
      | 3, hq => cases hq; exact ⟨r3, f3⟩
      | 4, hq => cases hq; exact ⟨fun n z => ⟨(fun k h => by cases h), kk4, g42, m4, g43⟩, kk4, m4, g42, g43, g41, g44⟩
      | 5, hq => cases hq; exact ⟨fun n z => ⟨(fun k h => by cases h), kk5, g52, m5, g53⟩, g54⟩
      | k + 6, hq => simp [sp_tys] at hq
  obtain ⟨t1, e1, T1⟩ := va_Tof (ty := .int) (N := 3) (f := fun j => .int (sp_f1 0 j)) (A := fun q => s.heap.size ≤ q) (tm := .static RX5 "LEAST_SETTINGS" "[I") (by decide) (hs _ (by decide +kernel)) (va_eqt (hs _ (by decide +kernel))) (fun j hj => by
    match j, hj with
    | 0, _ => exact va_eqt (hs _ (by decide +kernel))
    | 1, _ => exact va_eqt (hs _ (by decide +kernel))
    | 2, _ => exact va_eqt (hs _ (by decide +kernel))) hA
  obtain ⟨t2, e2, T2⟩ := va_Tof (ty := .int) (N := 3) (f := fun j => .int (sp_f1 1 j)) (A := fun q => s.heap.size ≤ q) (tm := .static RX5 "MOST_SETTINGS" "[I") (by decide) (hs _ (by decide +kernel)) (va_eqt (hs _ (by decide +kernel))) (fun j hj => by
    match j, hj with
    | 0, _ => exact va_eqt (hs _ (by decide +kernel))
    | 1, _ => exact va_eqt (hs _ (by decide +kernel))
    | 2, _ => exact va_eqt (hs _ (by decide +kernel))) hA
  have lt1 : t1 < s.heap.size := by obtain ⟨cell, h, -⟩ := T1; exact (Array.getElem?_eq_some_iff.mp h).1
  have lt2 : t2 < s.heap.size := by obtain ⟨cell, h, -⟩ := T2; exact (Array.getElem?_eq_some_iff.mp h).1
  refine ⟨_, _, t1, t2, lt1, lt2, hK, fun w hw ho => va_tabs (sp_nw_tabs ho) rfl (hts w hw), va_AO.of hao, haoa, ?_, ?_, vx_Zqof (hts _ (by decide +kernel)) (hts _ (by decide +kernel)) (hs _ (by decide +kernel)) hA, vx_Zqof (hts _ (by decide +kernel)) (hts _ (by decide +kernel)) (hs _ (by decide +kernel)) hA,
    va_Zof (hts _ (by decide +kernel)) (hts _ (by decide +kernel)) e1 hA, va_Zof (hts _ (by decide +kernel)) (hts _ (by decide +kernel)) e2 hA, T1, T2, hX, hbl, hA b hbl⟩
  · have hall : ∀ E ∈ sp_ex, ∀ E' ∈ sp_ex, E ≠ E' → Cond.not (.castable E E') ∈ flatC (Jvm.Cond.and given_1 narrow_1) := by decide +kernel
    exact fun E hE E' hE' hne => va_Nc.of (hs _ (hall E hE E' hE' hne))
  · have h1 : ∀ q ∈ sp_thT, Cond.stringRef RX5 q.2.2.2.2.1 q.2.2.2.2.2.2.2 ∈ lw_tbl := by decide +kernel
    have h2 : ∀ q ∈ sp_thT, Cond.exactly (.string RX5 q.2.2.2.2.1) "java/lang/String" ∈ flatC (Jvm.Cond.and given_1 narrow_1) := by decide +kernel
    exact fun q hq => sp_str_ref (hts _ (h1 q hq)) (hs _ (h2 q hq))
end SPH
end
section
/-! ===== from here on nothing but the abstract machine: what a run from a place comes to ===== -/
/-- from this place the run ends, with Q of its answer and its cells -/
def sq_go (G : sp_G) (y pc : Nat) (L : sp_L) (st : List Value) (M : sp_M) (Q : sp_R → sp_M → Prop) : Prop := ∃ n r M', sp_exec G n y pc L st M = some (r, M') ∧ Q r M'
theorem sp_exec_fuel (G : sp_G) : ∀ (n y pc : Nat) (L : sp_L) (st : List Value) (M : sp_M) (q : sp_R × sp_M), sp_exec G n y pc L st M = some q → sp_exec G (n + 1) y pc L st M = some q := by
  intro n
  induction n with
  | zero => intro y pc L st M q h; cases h
  | succ n ih =>
    intro y pc L st M q h
    unfold sp_exec at h ⊢
    split at h
    · cases h
    · rename_i e he
      split at h
      · exact h
      · split at h
        · cases h
        · rename_i i len hd
          split at h
          · split at h
            · cases h
            · exact ih _ _ _ _ _ _ h
          · split at h
            · cases h
            · exact ih _ _ _ _ _ _ h
          · split at h
            · cases h
            · exact ih _ _ _ _ _ _ h
          · split at h
            · cases h
            · exact ih _ _ _ _ _ _ h
          · split at h
            · cases h
            · exact ih _ _ _ _ _ _ h
          · exact h
          · split at h
            · cases h
            · exact ih _ _ _ _ _ _ h
            · split at h
              · cases h
              · rename_i hh
                rw [ih _ _ _ _ _ _ hh]
                exact ih _ _ _ _ _ _ h
              · rename_i hh
                rw [ih _ _ _ _ _ _ hh]
                dsimp only
                split at h
                · rename_i hE
                  rw [if_pos hE]
                  split at h
                  · exact h
                  · split at h
                    · cases h
                    · split at h
                      · rename_i hk
                        rw [if_pos hk]
                        exact ih _ _ _ _ _ _ h
                      · cases h
                · cases h
          · cases h
theorem sp_exec_more (G : sp_G) {n m y pc : Nat} {L : sp_L} {st : List Value} {M : sp_M} {q : sp_R × sp_M} (h : sp_exec G n y pc L st M = some q) (hm : n ≤ m) : sp_exec G m y pc L st M = some q := by
  obtain ⟨k, rfl⟩ := Nat.exists_eq_add_of_le hm
  clear hm
  induction k with
  | zero => exact h
  | succ k ih => exact sp_exec_fuel G _ _ _ _ _ _ _ ih
theorem sq_go.imp {G : sp_G} {y pc : Nat} {L : sp_L} {st : List Value} {M : sp_M} {Q Q' : sp_R → sp_M → Prop} (h : sq_go G y pc L st M Q) (hQ : ∀ r M', Q r M' → Q' r M') : sq_go G y pc L st M Q' := by
  obtain ⟨n, r, M', h1, h2⟩ := h
  exact ⟨n, r, M', h1, hQ r M' h2⟩
/-- the instruction at a place where nothing is thrown -/
abbrev sq_in (y pc : Nat) (i : Instr) (len : Nat) : Prop := sp_fd sp_thT y pc = none ∧ sp_ins y pc = some (i, len)
theorem sq_in_of {y pc : Nat} {i : Instr} {len : Nat} (h : sq_in y pc i len) : ∃ e, sp_T[y]? = some e ∧ sp_fd sp_thT y pc = none ∧ decode e.2.1 pc = .ok (i, len) := by
  obtain ⟨h1, h2⟩ := id h
  unfold sp_ins at h2
  split at h2
  · rename_i e he
    split at h2
    · rename_i r hr
      cases h2
      exact ⟨e, he, h1, hr⟩
    · cases h2
  · cases h2
def sq_c (y : Nat) : Nat := match sp_T[y]? with
  | some e => e.2.2.2.2.2.1
  | none => 0
def sq_ini (y : Nat) : Bool := match sp_T[y]? with
  | some e => decide (e.2.2.2.2.2.2.2.2.2 = 2)
  | none => false
def sq_ret (y : Nat) : Option FieldType := match sp_T[y]? with
  | some e => e.2.2.2.1
  | none => none
section SQA
variable {G : sp_G} {y pc len pc' : Nat} {i : Instr} {L L' : sp_L} {st st' : List Value} {M M' : sp_M} {Q : sp_R → sp_M → Prop}
theorem go_l (d : sq_in y pc i len) (h : sp_loc i len L st = some (L', st')) (k : sq_go G y (pc + len) L' st' M Q) (hg : sp_gr i = 0 := by rfl) : sq_go G y pc L st M Q := by
  obtain ⟨e, he, ht, hd⟩ := sq_in_of d
  obtain ⟨n, r, M1, h1, h2⟩ := k
  refine ⟨n + 1, r, M1, ?_, h2⟩
  unfold sp_exec
  simp only [he, ht, hd, hg, h]
  exact h1
theorem go_s (d : sq_in y pc i len) (h : sp_stk i len st = some st') (k : sq_go G y (pc + len) L st' M Q) (hg : sp_gr i = 1 := by rfl) : sq_go G y pc L st M Q := by
  obtain ⟨e, he, ht, hd⟩ := sq_in_of d
  obtain ⟨n, r, M1, h1, h2⟩ := k
  refine ⟨n + 1, r, M1, ?_, h2⟩
  unfold sp_exec
  simp only [he, ht, hd, hg, h]
  exact h1
theorem go_c (d : sq_in y pc i len) (h : sp_cst (sq_c y) i len st = some st') (k : sq_go G y (pc + len) L st' M Q) (hg : sp_gr i = 2 := by rfl) : sq_go G y pc L st M Q := by
  obtain ⟨e, he, ht, hd⟩ := sq_in_of d
  obtain ⟨n, r, M1, h1, h2⟩ := k
  refine ⟨n + 1, r, M1, ?_, h2⟩
  unfold sq_c at h
  rw [he] at h
  unfold sp_exec
  simp only [he, ht, hd, hg, h]
  exact h1
theorem go_j (d : sq_in y pc i len) (h : sp_jmp i len pc st = some (pc', st')) (k : sq_go G y pc' L st' M Q) (hg : sp_gr i = 3 := by rfl) : sq_go G y pc L st M Q := by
  obtain ⟨e, he, ht, hd⟩ := sq_in_of d
  obtain ⟨n, r, M1, h1, h2⟩ := k
  refine ⟨n + 1, r, M1, ?_, h2⟩
  unfold sp_exec
  simp only [he, ht, hd, hg, h]
  exact h1
theorem go_h (d : sq_in y pc i len) (h : sp_hp G (sq_c y) (sq_ini y) i len st M = some (st', M')) (k : sq_go G y (pc + len) L st' M' Q) (hg : sp_gr i = 4 := by rfl) : sq_go G y pc L st M Q := by
  obtain ⟨e, he, ht, hd⟩ := sq_in_of d
  obtain ⟨n, r, M1, h1, h2⟩ := k
  refine ⟨n + 1, r, M1, ?_, h2⟩
  unfold sq_c sq_ini at h
  rw [he] at h
  unfold sp_exec
  simp only [he, ht, hd, hg, h]
  exact h1
theorem go_r (d : sq_in y pc i len) {v : Option Value} (h : sp_retn (sq_ret y) i len st = some v) (k : Q (.inl v) M) (hg : sp_gr i = 5 := by rfl) : sq_go G y pc L st M Q := by
  obtain ⟨e, he, ht, hd⟩ := sq_in_of d
  refine ⟨1, .inl v, M, ?_, k⟩
  unfold sq_ret at h
  rw [he] at h
  unfold sp_exec
  simp only [he, ht, hd, hg, h]
def sq_cal (y : Nat) (i : Instr) (len : Nat) (st : List Value) (M : sp_M) : Option sp_C := match sp_T[y]? with
  | some e => sp_call e i len st M
  | none => none
theorem go_i (d : sq_in y pc i len) (h : sq_cal y i len st M = some (.inl (st', M'))) (k : sq_go G y (pc + 3) L st' M' Q) (hg : sp_gr i = 6 := by rfl) : sq_go G y pc L st M Q := by
  obtain ⟨e, he, ht, hd⟩ := sq_in_of d
  obtain ⟨n, r, M1, h1, h2⟩ := k
  refine ⟨n + 1, r, M1, ?_, h2⟩
  unfold sq_cal at h
  rw [he] at h
  unfold sp_exec
  simp only [he, ht, hd, hg, h]
  exact h1
/-- what follows a call that throws E -/
def sq_thr (G : sp_G) (y pc : Nat) (L : sp_L) (E : String) (M1 : sp_M) (Q : sp_R → sp_M → Prop) : Prop := ∃ e, sp_T[y]? = some e ∧ E ∈ sp_ex ∧ match sp_hdl e.2.2.2.2.1 pc E with
  | none => Q (.inr E) M1
  | some hp => ∃ k ln, sp_hst e.2.1 hp = some (k, ln) ∧ k < L.length ∧ sq_go G y (hp + ln) (sp_clr L k) [] M1 Q
/-- what follows a call -/
def sq_bk (G : sp_G) (y pc : Nat) (L : sp_L) (rest : List Value) (Q : sp_R → sp_M → Prop) : sp_R → sp_M → Prop
  | .inl v, M1 => sq_go G y (pc + 3) L (v.toList ++ rest) M1 Q
  | .inr E, M1 => sq_thr G y pc L E M1 Q
theorem go_k (d : sq_in y pc i len) {y' ml : Nat} {as rest : List Value} (h : sq_cal y i len st M = some (.inr (y', as, rest))) (hk : sp_ml y' = ml) (hkd : sp_kd y' ≠ 2) (k : sq_go G y' 0 (sp_ent ml as) [] M (sq_bk G y pc L rest Q)) (hg : sp_gr i = 6 := by rfl) : sq_go G y pc L st M Q := by
  obtain ⟨e, he, ht, hd⟩ := sq_in_of d
  obtain ⟨n, r, M1, h1, h2⟩ := k
  subst hk
  unfold sq_cal at h
  rw [he] at h
  cases r with
  | inl v =>
    obtain ⟨n2, r2, M2, h3, h4⟩ := h2
    refine ⟨n + n2 + 1, r2, M2, ?_, h4⟩
    unfold sp_exec
    simp only [he, ht, hd, hg, h, sp_exec_more G h1 (Nat.le_add_right n n2)]
    exact sp_exec_more G h3 (Nat.le_add_left n2 n)
  | inr E =>
    obtain ⟨e', he', hE, h2⟩ := h2
    cases he.symm.trans he'
    have hc : E ∈ sp_ex ∧ sp_kd y' ≠ 2 := ⟨hE, hkd⟩
    split at h2
    · rename_i hn
      refine ⟨n + 1, .inr E, M1, ?_, h2⟩
      unfold sp_exec
      simp only [he, ht, hd, hg, h, h1]
      rw [if_pos hc, hn]
    · rename_i hp hs
      obtain ⟨k, ln, h5, h6, n2, r2, M2, h3, h4⟩ := h2
      refine ⟨n + n2 + 1, r2, M2, ?_, h4⟩
      unfold sp_exec
      simp only [he, ht, hd, hg, h, sp_exec_more G h1 (Nat.le_add_right n n2)]
      rw [if_pos hc, hs]
      simp only [h5]
      rw [if_pos h6]
      exact sp_exec_more G h3 (Nat.le_add_left n2 n)
/-- a constructor's call: it only returns -/
theorem go_n (d : sq_in y pc i len) {y' ml : Nat} {as rest : List Value} (h : sq_cal y i len st M = some (.inr (y', as, rest))) (hk : sp_ml y' = ml) (k : sq_go G y' 0 (sp_ent ml as) [] M (fun r M1 => match r with | .inl v => sq_go G y (pc + 3) L (v.toList ++ rest) M1 Q | .inr _ => False)) (hg : sp_gr i = 6 := by rfl) : sq_go G y pc L st M Q := by
  obtain ⟨e, he, ht, hd⟩ := sq_in_of d
  obtain ⟨n, r, M1, h1, h2⟩ := k
  subst hk
  unfold sq_cal at h
  rw [he] at h
  cases r with
  | inl v =>
    obtain ⟨n2, r2, M2, h3, h4⟩ := h2
    refine ⟨n + n2 + 1, r2, M2, ?_, h4⟩
    unfold sp_exec
    simp only [he, ht, hd, hg, h, sp_exec_more G h1 (Nat.le_add_right n n2)]
    exact sp_exec_more G h3 (Nat.le_add_left n2 n)
  | inr E => exact h2.elim
/-- a throw -/
theorem go_t {q : String × Nat × Nat × Nat × Bool × String} (h : sp_fd sp_thT y pc = some q) (hy : (sp_T[y]?).isSome = true) (hst : sp_sum st ≤ 8) (k : Q (.inr q.1) (none, M.2.1 + 1, M.2.2.1 + 6, M.2.2.2)) : sq_go G y pc L st M Q := by
  obtain ⟨e, he⟩ := Option.isSome_iff_exists.mp hy
  refine ⟨1, .inr q.1, _, ?_, k⟩
  unfold sp_exec
  simp only [he, h]
  rw [if_pos hst]
end SQA
end
section
/-! ===== the instruction at each place ===== -/
-- 0: SewingPiles$History.<init>()V
theorem qd0_0 : sq_in 0 0 (.aload_n 0) 1 := by decide +kernel
theorem qd0_1 : sq_in 0 1 (.invokespecial 3) 3 := by decide +kernel
theorem qd0_4 : sq_in 0 4 (.aload_n 0) 1 := by decide +kernel
theorem qd0_5 : sq_in 0 5 (.bipush 6) 2 := by decide +kernel
theorem qd0_7 : sq_in 0 7 (.anewarray 9) 3 := by decide +kernel
theorem qd0_10 : sq_in 0 10 (.putfield 11) 3 := by decide +kernel
theorem qd0_13 : sq_in 0 13 (.iconst 0) 1 := by decide +kernel
theorem qd0_14 : sq_in 0 14 (.istore_n 1) 1 := by decide +kernel
theorem qd0_15 : sq_in 0 15 (.iload_n 1) 1 := by decide +kernel
theorem qd0_16 : sq_in 0 16 (.bipush 6) 2 := by decide +kernel
theorem qd0_18 : sq_in 0 18 (.if_icmp .ge 22) 3 := by decide +kernel
theorem qd0_21 : sq_in 0 21 (.aload_n 0) 1 := by decide +kernel
theorem qd0_22 : sq_in 0 22 (.getfield 11) 3 := by decide +kernel
theorem qd0_25 : sq_in 0 25 (.iload_n 1) 1 := by decide +kernel
theorem qd0_26 : sq_in 0 26 (.new 9) 3 := by decide +kernel
theorem qd0_29 : sq_in 0 29 (.dup) 1 := by decide +kernel
theorem qd0_30 : sq_in 0 30 (.invokespecial 17) 3 := by decide +kernel
theorem qd0_33 : sq_in 0 33 (.aastore) 1 := by decide +kernel
theorem qd0_34 : sq_in 0 34 (.iinc 1 1) 3 := by decide +kernel
theorem qd0_37 : sq_in 0 37 (.goto (-22)) 3 := by decide +kernel
theorem qd0_40 : sq_in 0 40 (.return_) 1 := by decide +kernel
-- 1: SewingPiles$History.save(LSewingPiles$Room;)V
theorem qd1_0 : sq_in 1 0 (.aload_n 0) 1 := by decide +kernel
theorem qd1_1 : sq_in 1 1 (.getfield 18) 3 := by decide +kernel
theorem qd1_4 : sq_in 1 4 (.bipush 6) 2 := by decide +kernel
theorem qd1_6 : sq_in 1 6 (.if_icmp .lt 7) 3 := by decide +kernel
theorem qd1_9 : sq_in 1 9 (.aload_n 0) 1 := by decide +kernel
theorem qd1_10 : sq_in 1 10 (.invokevirtual 22) 3 := by decide +kernel
theorem qd1_13 : sq_in 1 13 (.aload_n 0) 1 := by decide +kernel
theorem qd1_14 : sq_in 1 14 (.getfield 11) 3 := by decide +kernel
theorem qd1_17 : sq_in 1 17 (.aload_n 0) 1 := by decide +kernel
theorem qd1_18 : sq_in 1 18 (.getfield 18) 3 := by decide +kernel
theorem qd1_21 : sq_in 1 21 (.aaload) 1 := by decide +kernel
theorem qd1_22 : sq_in 1 22 (.astore_n 2) 1 := by decide +kernel
theorem qd1_23 : sq_in 1 23 (.aload_n 2) 1 := by decide +kernel
theorem qd1_24 : sq_in 1 24 (.ifnull 18) 3 := by decide +kernel
theorem qd1_27 : sq_in 1 27 (.aload_n 2) 1 := by decide +kernel
theorem qd1_28 : sq_in 1 28 (.aload_n 1) 1 := by decide +kernel
theorem qd1_29 : sq_in 1 29 (.invokevirtual 25) 3 := by decide +kernel
theorem qd1_32 : sq_in 1 32 (.aload_n 0) 1 := by decide +kernel
theorem qd1_33 : sq_in 1 33 (.dup) 1 := by decide +kernel
theorem qd1_34 : sq_in 1 34 (.getfield 18) 3 := by decide +kernel
theorem qd1_37 : sq_in 1 37 (.iconst 1) 1 := by decide +kernel
theorem qd1_38 : sq_in 1 38 (.iadd) 1 := by decide +kernel
theorem qd1_39 : sq_in 1 39 (.putfield 18) 3 := by decide +kernel
theorem qd1_42 : sq_in 1 42 (.return_) 1 := by decide +kernel
-- 2: SewingPiles$History.restoreLatest(LSewingPiles$Room;)V
theorem qd2_0 : sq_in 2 0 (.aload_n 0) 1 := by decide +kernel
theorem qd2_1 : sq_in 2 1 (.getfield 18) 3 := by decide +kernel
theorem qd2_4 : sq_in 2 4 (.iconst 1) 1 := by decide +kernel
theorem qd2_5 : sq_in 2 5 (.if_icmp .lt 12) 3 := by decide +kernel
theorem qd2_8 : sq_in 2 8 (.aload_n 0) 1 := by decide +kernel
theorem qd2_9 : sq_in 2 9 (.getfield 18) 3 := by decide +kernel
theorem qd2_12 : sq_in 2 12 (.bipush 6) 2 := by decide +kernel
theorem qd2_14 : sq_in 2 14 (.if_icmp .le 4) 3 := by decide +kernel
theorem qd2_17 : sq_in 2 17 (.return_) 1 := by decide +kernel
theorem qd2_18 : sq_in 2 18 (.aload_n 0) 1 := by decide +kernel
theorem qd2_19 : sq_in 2 19 (.dup) 1 := by decide +kernel
theorem qd2_20 : sq_in 2 20 (.getfield 18) 3 := by decide +kernel
theorem qd2_23 : sq_in 2 23 (.iconst 1) 1 := by decide +kernel
theorem qd2_24 : sq_in 2 24 (.isub) 1 := by decide +kernel
theorem qd2_25 : sq_in 2 25 (.putfield 18) 3 := by decide +kernel
theorem qd2_28 : sq_in 2 28 (.aload_n 0) 1 := by decide +kernel
theorem qd2_29 : sq_in 2 29 (.getfield 11) 3 := by decide +kernel
theorem qd2_32 : sq_in 2 32 (.aload_n 0) 1 := by decide +kernel
theorem qd2_33 : sq_in 2 33 (.getfield 18) 3 := by decide +kernel
theorem qd2_36 : sq_in 2 36 (.aaload) 1 := by decide +kernel
theorem qd2_37 : sq_in 2 37 (.astore_n 2) 1 := by decide +kernel
theorem qd2_38 : sq_in 2 38 (.aload_n 2) 1 := by decide +kernel
theorem qd2_39 : sq_in 2 39 (.ifnull 8) 3 := by decide +kernel
theorem qd2_42 : sq_in 2 42 (.aload_n 1) 1 := by decide +kernel
theorem qd2_43 : sq_in 2 43 (.aload_n 2) 1 := by decide +kernel
theorem qd2_44 : sq_in 2 44 (.invokevirtual 25) 3 := by decide +kernel
theorem qd2_47 : sq_in 2 47 (.return_) 1 := by decide +kernel
-- 3: SewingPiles$History.dropOldest()V
theorem qd3_0 : sq_in 3 0 (.aload_n 0) 1 := by decide +kernel
theorem qd3_1 : sq_in 3 1 (.getfield 11) 3 := by decide +kernel
theorem qd3_4 : sq_in 3 4 (.iconst 0) 1 := by decide +kernel
theorem qd3_5 : sq_in 3 5 (.aaload) 1 := by decide +kernel
theorem qd3_6 : sq_in 3 6 (.astore_n 1) 1 := by decide +kernel
theorem qd3_7 : sq_in 3 7 (.iconst 1) 1 := by decide +kernel
theorem qd3_8 : sq_in 3 8 (.istore_n 2) 1 := by decide +kernel
theorem qd3_9 : sq_in 3 9 (.iload_n 2) 1 := by decide +kernel
theorem qd3_10 : sq_in 3 10 (.bipush 6) 2 := by decide +kernel
theorem qd3_12 : sq_in 3 12 (.if_icmp .ge 23) 3 := by decide +kernel
theorem qd3_15 : sq_in 3 15 (.aload_n 0) 1 := by decide +kernel
theorem qd3_16 : sq_in 3 16 (.getfield 11) 3 := by decide +kernel
theorem qd3_19 : sq_in 3 19 (.iload_n 2) 1 := by decide +kernel
theorem qd3_20 : sq_in 3 20 (.iconst 1) 1 := by decide +kernel
theorem qd3_21 : sq_in 3 21 (.isub) 1 := by decide +kernel
theorem qd3_22 : sq_in 3 22 (.aload_n 0) 1 := by decide +kernel
theorem qd3_23 : sq_in 3 23 (.getfield 11) 3 := by decide +kernel
theorem qd3_26 : sq_in 3 26 (.iload_n 2) 1 := by decide +kernel
theorem qd3_27 : sq_in 3 27 (.aaload) 1 := by decide +kernel
theorem qd3_28 : sq_in 3 28 (.aastore) 1 := by decide +kernel
theorem qd3_29 : sq_in 3 29 (.iinc 2 1) 3 := by decide +kernel
theorem qd3_32 : sq_in 3 32 (.goto (-23)) 3 := by decide +kernel
theorem qd3_35 : sq_in 3 35 (.aload_n 0) 1 := by decide +kernel
theorem qd3_36 : sq_in 3 36 (.getfield 11) 3 := by decide +kernel
theorem qd3_39 : sq_in 3 39 (.iconst 5) 1 := by decide +kernel
theorem qd3_40 : sq_in 3 40 (.aload_n 1) 1 := by decide +kernel
theorem qd3_41 : sq_in 3 41 (.aastore) 1 := by decide +kernel
theorem qd3_42 : sq_in 3 42 (.aload_n 0) 1 := by decide +kernel
theorem qd3_43 : sq_in 3 43 (.iconst 5) 1 := by decide +kernel
theorem qd3_44 : sq_in 3 44 (.putfield 18) 3 := by decide +kernel
theorem qd3_47 : sq_in 3 47 (.return_) 1 := by decide +kernel
-- 4: SewingPiles$OrderText.<init>()V
theorem qd4_0 : sq_in 4 0 (.aload_n 0) 1 := by decide +kernel
theorem qd4_1 : sq_in 4 1 (.invokespecial 3) 3 := by decide +kernel
theorem qd4_4 : sq_in 4 4 (.aload_n 0) 1 := by decide +kernel
theorem qd4_5 : sq_in 4 5 (.bipush 60) 2 := by decide +kernel
theorem qd4_7 : sq_in 4 7 (.newarray .char) 2 := by decide +kernel
theorem qd4_9 : sq_in 4 9 (.putfield 9) 3 := by decide +kernel
theorem qd4_12 : sq_in 4 12 (.return_) 1 := by decide +kernel
-- 5: SewingPiles$OrderText.add(I)V
theorem qd5_0 : sq_in 5 0 (.aload_n 0) 1 := by decide +kernel
theorem qd5_1 : sq_in 5 1 (.getfield 15) 3 := by decide +kernel
theorem qd5_4 : sq_in 5 4 (.bipush 60) 2 := by decide +kernel
theorem qd5_6 : sq_in 5 6 (.if_icmp .ge 24) 3 := by decide +kernel
theorem qd5_9 : sq_in 5 9 (.aload_n 0) 1 := by decide +kernel
theorem qd5_10 : sq_in 5 10 (.getfield 9) 3 := by decide +kernel
theorem qd5_13 : sq_in 5 13 (.aload_n 0) 1 := by decide +kernel
theorem qd5_14 : sq_in 5 14 (.getfield 15) 3 := by decide +kernel
theorem qd5_17 : sq_in 5 17 (.iload_n 1) 1 := by decide +kernel
theorem qd5_18 : sq_in 5 18 (.i2c) 1 := by decide +kernel
theorem qd5_19 : sq_in 5 19 (.castore) 1 := by decide +kernel
theorem qd5_20 : sq_in 5 20 (.aload_n 0) 1 := by decide +kernel
theorem qd5_21 : sq_in 5 21 (.dup) 1 := by decide +kernel
theorem qd5_22 : sq_in 5 22 (.getfield 15) 3 := by decide +kernel
theorem qd5_25 : sq_in 5 25 (.iconst 1) 1 := by decide +kernel
theorem qd5_26 : sq_in 5 26 (.iadd) 1 := by decide +kernel
theorem qd5_27 : sq_in 5 27 (.putfield 15) 3 := by decide +kernel
theorem qd5_30 : sq_in 5 30 (.return_) 1 := by decide +kernel
-- 6: SewingPiles$OrderText.empty()I
theorem qd6_0 : sq_in 6 0 (.aload_n 0) 1 := by decide +kernel
theorem qd6_1 : sq_in 6 1 (.getfield 15) 3 := by decide +kernel
theorem qd6_4 : sq_in 6 4 (.istore_n 1) 1 := by decide +kernel
theorem qd6_5 : sq_in 6 5 (.aload_n 0) 1 := by decide +kernel
theorem qd6_6 : sq_in 6 6 (.iconst 0) 1 := by decide +kernel
theorem qd6_7 : sq_in 6 7 (.putfield 15) 3 := by decide +kernel
theorem qd6_10 : sq_in 6 10 (.iload_n 1) 1 := by decide +kernel
theorem qd6_11 : sq_in 6 11 (.ireturn) 1 := by decide +kernel
-- 7: SewingPiles$OrderText.codeAt(I)I
theorem qd7_0 : sq_in 7 0 (.iload_n 1) 1 := by decide +kernel
theorem qd7_1 : sq_in 7 1 (.ifCond .lt 20) 3 := by decide +kernel
theorem qd7_4 : sq_in 7 4 (.iload_n 1) 1 := by decide +kernel
theorem qd7_5 : sq_in 7 5 (.aload_n 0) 1 := by decide +kernel
theorem qd7_6 : sq_in 7 6 (.getfield 15) 3 := by decide +kernel
theorem qd7_9 : sq_in 7 9 (.if_icmp .ge 12) 3 := by decide +kernel
theorem qd7_12 : sq_in 7 12 (.aload_n 0) 1 := by decide +kernel
theorem qd7_13 : sq_in 7 13 (.getfield 9) 3 := by decide +kernel
theorem qd7_16 : sq_in 7 16 (.iload_n 1) 1 := by decide +kernel
theorem qd7_17 : sq_in 7 17 (.caload) 1 := by decide +kernel
theorem qd7_18 : sq_in 7 18 (.goto 4) 3 := by decide +kernel
theorem qd7_21 : sq_in 7 21 (.iconst 0) 1 := by decide +kernel
theorem qd7_22 : sq_in 7 22 (.ireturn) 1 := by decide +kernel
-- 8: SewingPiles$OrderText.indexOfError()I
theorem qd8_0 : sq_in 8 0 (.iconst 0) 1 := by decide +kernel
theorem qd8_1 : sq_in 8 1 (.istore_n 1) 1 := by decide +kernel
theorem qd8_2 : sq_in 8 2 (.iconst 0) 1 := by decide +kernel
theorem qd8_3 : sq_in 8 3 (.istore_n 2) 1 := by decide +kernel
theorem qd8_4 : sq_in 8 4 (.iload_n 2) 1 := by decide +kernel
theorem qd8_5 : sq_in 8 5 (.aload_n 0) 1 := by decide +kernel
theorem qd8_6 : sq_in 8 6 (.getfield 15) 3 := by decide +kernel
theorem qd8_9 : sq_in 8 9 (.if_icmp .ge 27) 3 := by decide +kernel
theorem qd8_12 : sq_in 8 12 (.iload_n 1) 1 := by decide +kernel
theorem qd8_13 : sq_in 8 13 (.aload_n 0) 1 := by decide +kernel
theorem qd8_14 : sq_in 8 14 (.getfield 9) 3 := by decide +kernel
theorem qd8_17 : sq_in 8 17 (.iload_n 2) 1 := by decide +kernel
theorem qd8_18 : sq_in 8 18 (.caload) 1 := by decide +kernel
theorem qd8_19 : sq_in 8 19 (.invokestatic 19) 3 := by decide +kernel
theorem qd8_22 : sq_in 8 22 (.istore_n 1) 1 := by decide +kernel
theorem qd8_23 : sq_in 8 23 (.iload_n 1) 1 := by decide +kernel
theorem qd8_24 : sq_in 8 24 (.iconst (-1)) 1 := by decide +kernel
theorem qd8_25 : sq_in 8 25 (.if_icmp .ne 5) 3 := by decide +kernel
theorem qd8_28 : sq_in 8 28 (.iload_n 2) 1 := by decide +kernel
theorem qd8_29 : sq_in 8 29 (.ireturn) 1 := by decide +kernel
theorem qd8_30 : sq_in 8 30 (.iinc 2 1) 3 := by decide +kernel
theorem qd8_33 : sq_in 8 33 (.goto (-29)) 3 := by decide +kernel
theorem qd8_36 : sq_in 8 36 (.aload_n 0) 1 := by decide +kernel
theorem qd8_37 : sq_in 8 37 (.getfield 15) 3 := by decide +kernel
theorem qd8_40 : sq_in 8 40 (.ireturn) 1 := by decide +kernel
-- 9: SewingPiles$OrderText.isComplete()Z
theorem qd9_0 : sq_in 9 0 (.iconst 0) 1 := by decide +kernel
theorem qd9_1 : sq_in 9 1 (.istore_n 1) 1 := by decide +kernel
theorem qd9_2 : sq_in 9 2 (.iconst 0) 1 := by decide +kernel
theorem qd9_3 : sq_in 9 3 (.istore_n 2) 1 := by decide +kernel
theorem qd9_4 : sq_in 9 4 (.iload_n 2) 1 := by decide +kernel
theorem qd9_5 : sq_in 9 5 (.aload_n 0) 1 := by decide +kernel
theorem qd9_6 : sq_in 9 6 (.getfield 15) 3 := by decide +kernel
theorem qd9_9 : sq_in 9 9 (.if_icmp .ge 20) 3 := by decide +kernel
theorem qd9_12 : sq_in 9 12 (.iload_n 1) 1 := by decide +kernel
theorem qd9_13 : sq_in 9 13 (.aload_n 0) 1 := by decide +kernel
theorem qd9_14 : sq_in 9 14 (.getfield 9) 3 := by decide +kernel
theorem qd9_17 : sq_in 9 17 (.iload_n 2) 1 := by decide +kernel
theorem qd9_18 : sq_in 9 18 (.caload) 1 := by decide +kernel
theorem qd9_19 : sq_in 9 19 (.invokestatic 19) 3 := by decide +kernel
theorem qd9_22 : sq_in 9 22 (.istore_n 1) 1 := by decide +kernel
theorem qd9_23 : sq_in 9 23 (.iinc 2 1) 3 := by decide +kernel
theorem qd9_26 : sq_in 9 26 (.goto (-22)) 3 := by decide +kernel
theorem qd9_29 : sq_in 9 29 (.iload_n 1) 1 := by decide +kernel
theorem qd9_30 : sq_in 9 30 (.iconst 4) 1 := by decide +kernel
theorem qd9_31 : sq_in 9 31 (.if_icmp .eq 9) 3 := by decide +kernel
theorem qd9_34 : sq_in 9 34 (.iload_n 1) 1 := by decide +kernel
theorem qd9_35 : sq_in 9 35 (.bipush 8) 2 := by decide +kernel
theorem qd9_37 : sq_in 9 37 (.if_icmp .ne 7) 3 := by decide +kernel
theorem qd9_40 : sq_in 9 40 (.iconst 1) 1 := by decide +kernel
theorem qd9_41 : sq_in 9 41 (.goto 4) 3 := by decide +kernel
theorem qd9_44 : sq_in 9 44 (.iconst 0) 1 := by decide +kernel
theorem qd9_45 : sq_in 9 45 (.ireturn) 1 := by decide +kernel
-- 10: SewingPiles$OrderText.startsPart(I)Z
theorem qd10_0 : sq_in 10 0 (.iload_n 1) 1 := by decide +kernel
theorem qd10_1 : sq_in 10 1 (.ifCond .eq 15) 3 := by decide +kernel
theorem qd10_4 : sq_in 10 4 (.aload_n 0) 1 := by decide +kernel
theorem qd10_5 : sq_in 10 5 (.iload_n 1) 1 := by decide +kernel
theorem qd10_6 : sq_in 10 6 (.iconst 1) 1 := by decide +kernel
theorem qd10_7 : sq_in 10 7 (.isub) 1 := by decide +kernel
theorem qd10_8 : sq_in 10 8 (.invokevirtual 23) 3 := by decide +kernel
theorem qd10_11 : sq_in 10 11 (.bipush 59) 2 := by decide +kernel
theorem qd10_13 : sq_in 10 13 (.if_icmp .ne 7) 3 := by decide +kernel
theorem qd10_16 : sq_in 10 16 (.iconst 1) 1 := by decide +kernel
theorem qd10_17 : sq_in 10 17 (.goto 4) 3 := by decide +kernel
theorem qd10_20 : sq_in 10 20 (.iconst 0) 1 := by decide +kernel
theorem qd10_21 : sq_in 10 21 (.ireturn) 1 := by decide +kernel
-- 11: SewingPiles$OrderText.numberAt(I)I
theorem qd11_0 : sq_in 11 0 (.aload_n 0) 1 := by decide +kernel
theorem qd11_1 : sq_in 11 1 (.iload_n 1) 1 := by decide +kernel
theorem qd11_2 : sq_in 11 2 (.invokevirtual 23) 3 := by decide +kernel
theorem qd11_5 : sq_in 11 5 (.bipush 48) 2 := by decide +kernel
theorem qd11_7 : sq_in 11 7 (.isub) 1 := by decide +kernel
theorem qd11_8 : sq_in 11 8 (.istore_n 2) 1 := by decide +kernel
theorem qd11_9 : sq_in 11 9 (.aload_n 0) 1 := by decide +kernel
theorem qd11_10 : sq_in 11 10 (.iload_n 1) 1 := by decide +kernel
theorem qd11_11 : sq_in 11 11 (.iconst 1) 1 := by decide +kernel
theorem qd11_12 : sq_in 11 12 (.iadd) 1 := by decide +kernel
theorem qd11_13 : sq_in 11 13 (.invokevirtual 23) 3 := by decide +kernel
theorem qd11_16 : sq_in 11 16 (.istore_n 3) 1 := by decide +kernel
theorem qd11_17 : sq_in 11 17 (.bipush 48) 2 := by decide +kernel
theorem qd11_19 : sq_in 11 19 (.iload_n 3) 1 := by decide +kernel
theorem qd11_20 : sq_in 11 20 (.bipush 57) 2 := by decide +kernel
theorem qd11_22 : sq_in 11 22 (.invokestatic 27) 3 := by decide +kernel
theorem qd11_25 : sq_in 11 25 (.ifCond .eq 15) 3 := by decide +kernel
theorem qd11_28 : sq_in 11 28 (.bipush 10) 2 := by decide +kernel
theorem qd11_30 : sq_in 11 30 (.iload_n 2) 1 := by decide +kernel
theorem qd11_31 : sq_in 11 31 (.imul) 1 := by decide +kernel
theorem qd11_32 : sq_in 11 32 (.iload_n 3) 1 := by decide +kernel
theorem qd11_33 : sq_in 11 33 (.iadd) 1 := by decide +kernel
theorem qd11_34 : sq_in 11 34 (.bipush 48) 2 := by decide +kernel
theorem qd11_36 : sq_in 11 36 (.isub) 1 := by decide +kernel
theorem qd11_37 : sq_in 11 37 (.goto 4) 3 := by decide +kernel
theorem qd11_40 : sq_in 11 40 (.iload_n 2) 1 := by decide +kernel
theorem qd11_41 : sq_in 11 41 (.ireturn) 1 := by decide +kernel
-- 12: SewingPiles$OrderText.stateBehind(II)I
theorem qd12_0 : sq_in 12 0 (.iload_n 0) 1 := by decide +kernel
theorem qd12_1 : sq_in 12 1 (.tableswitch 182 0 8 #[51, 56, 73, 85, 102, 123, 141, 159, 177]) 51 := by decide +kernel
theorem qd12_52 : sq_in 12 52 (.iload_n 1) 1 := by decide +kernel
theorem qd12_53 : sq_in 12 53 (.invokestatic 31) 3 := by decide +kernel
theorem qd12_56 : sq_in 12 56 (.ireturn) 1 := by decide +kernel
theorem qd12_57 : sq_in 12 57 (.bipush 48) 2 := by decide +kernel
theorem qd12_59 : sq_in 12 59 (.iload_n 1) 1 := by decide +kernel
theorem qd12_60 : sq_in 12 60 (.bipush 53) 2 := by decide +kernel
theorem qd12_62 : sq_in 12 62 (.invokestatic 27) 3 := by decide +kernel
theorem qd12_65 : sq_in 12 65 (.ifCond .eq 7) 3 := by decide +kernel
theorem qd12_68 : sq_in 12 68 (.iconst 2) 1 := by decide +kernel
theorem qd12_69 : sq_in 12 69 (.goto 4) 3 := by decide +kernel
theorem qd12_72 : sq_in 12 72 (.iconst (-1)) 1 := by decide +kernel
theorem qd12_73 : sq_in 12 73 (.ireturn) 1 := by decide +kernel
theorem qd12_74 : sq_in 12 74 (.iload_n 1) 1 := by decide +kernel
theorem qd12_75 : sq_in 12 75 (.bipush 46) 2 := by decide +kernel
theorem qd12_77 : sq_in 12 77 (.if_icmp .ne 7) 3 := by decide +kernel
theorem qd12_80 : sq_in 12 80 (.iconst 3) 1 := by decide +kernel
theorem qd12_81 : sq_in 12 81 (.goto 4) 3 := by decide +kernel
theorem qd12_84 : sq_in 12 84 (.iconst (-1)) 1 := by decide +kernel
theorem qd12_85 : sq_in 12 85 (.ireturn) 1 := by decide +kernel
theorem qd12_86 : sq_in 12 86 (.bipush 49) 2 := by decide +kernel
theorem qd12_88 : sq_in 12 88 (.iload_n 1) 1 := by decide +kernel
theorem qd12_89 : sq_in 12 89 (.bipush 57) 2 := by decide +kernel
theorem qd12_91 : sq_in 12 91 (.invokestatic 27) 3 := by decide +kernel
theorem qd12_94 : sq_in 12 94 (.ifCond .eq 7) 3 := by decide +kernel
theorem qd12_97 : sq_in 12 97 (.iconst 4) 1 := by decide +kernel
theorem qd12_98 : sq_in 12 98 (.goto 4) 3 := by decide +kernel
theorem qd12_101 : sq_in 12 101 (.iconst (-1)) 1 := by decide +kernel
theorem qd12_102 : sq_in 12 102 (.ireturn) 1 := by decide +kernel
theorem qd12_103 : sq_in 12 103 (.bipush 48) 2 := by decide +kernel
theorem qd12_105 : sq_in 12 105 (.iload_n 1) 1 := by decide +kernel
theorem qd12_106 : sq_in 12 106 (.bipush 57) 2 := by decide +kernel
theorem qd12_108 : sq_in 12 108 (.invokestatic 27) 3 := by decide +kernel
theorem qd12_111 : sq_in 12 111 (.ifCond .eq 8) 3 := by decide +kernel
theorem qd12_114 : sq_in 12 114 (.bipush 8) 2 := by decide +kernel
theorem qd12_116 : sq_in 12 116 (.goto 7) 3 := by decide +kernel
theorem qd12_119 : sq_in 12 119 (.iload_n 1) 1 := by decide +kernel
theorem qd12_120 : sq_in 12 120 (.invokestatic 34) 3 := by decide +kernel
theorem qd12_123 : sq_in 12 123 (.ireturn) 1 := by decide +kernel
theorem qd12_124 : sq_in 12 124 (.bipush 48) 2 := by decide +kernel
theorem qd12_126 : sq_in 12 126 (.iload_n 1) 1 := by decide +kernel
theorem qd12_127 : sq_in 12 127 (.bipush 53) 2 := by decide +kernel
theorem qd12_129 : sq_in 12 129 (.invokestatic 27) 3 := by decide +kernel
theorem qd12_132 : sq_in 12 132 (.ifCond .eq 8) 3 := by decide +kernel
theorem qd12_135 : sq_in 12 135 (.bipush 6) 2 := by decide +kernel
theorem qd12_137 : sq_in 12 137 (.goto 4) 3 := by decide +kernel
theorem qd12_140 : sq_in 12 140 (.iconst (-1)) 1 := by decide +kernel
theorem qd12_141 : sq_in 12 141 (.ireturn) 1 := by decide +kernel
theorem qd12_142 : sq_in 12 142 (.bipush 49) 2 := by decide +kernel
theorem qd12_144 : sq_in 12 144 (.iload_n 1) 1 := by decide +kernel
theorem qd12_145 : sq_in 12 145 (.bipush 57) 2 := by decide +kernel
theorem qd12_147 : sq_in 12 147 (.invokestatic 27) 3 := by decide +kernel
theorem qd12_150 : sq_in 12 150 (.ifCond .eq 8) 3 := by decide +kernel
theorem qd12_153 : sq_in 12 153 (.bipush 8) 2 := by decide +kernel
theorem qd12_155 : sq_in 12 155 (.goto 4) 3 := by decide +kernel
theorem qd12_158 : sq_in 12 158 (.iconst (-1)) 1 := by decide +kernel
theorem qd12_159 : sq_in 12 159 (.ireturn) 1 := by decide +kernel
theorem qd12_160 : sq_in 12 160 (.bipush 48) 2 := by decide +kernel
theorem qd12_162 : sq_in 12 162 (.iload_n 1) 1 := by decide +kernel
theorem qd12_163 : sq_in 12 163 (.bipush 53) 2 := by decide +kernel
theorem qd12_165 : sq_in 12 165 (.invokestatic 27) 3 := by decide +kernel
theorem qd12_168 : sq_in 12 168 (.ifCond .eq 8) 3 := by decide +kernel
theorem qd12_171 : sq_in 12 171 (.bipush 8) 2 := by decide +kernel
theorem qd12_173 : sq_in 12 173 (.goto 4) 3 := by decide +kernel
theorem qd12_176 : sq_in 12 176 (.iconst (-1)) 1 := by decide +kernel
theorem qd12_177 : sq_in 12 177 (.ireturn) 1 := by decide +kernel
theorem qd12_178 : sq_in 12 178 (.iload_n 1) 1 := by decide +kernel
theorem qd12_179 : sq_in 12 179 (.invokestatic 34) 3 := by decide +kernel
theorem qd12_182 : sq_in 12 182 (.ireturn) 1 := by decide +kernel
theorem qd12_183 : sq_in 12 183 (.iconst (-1)) 1 := by decide +kernel
theorem qd12_184 : sq_in 12 184 (.ireturn) 1 := by decide +kernel
-- 13: SewingPiles$OrderText.stateBehindKind(I)I
theorem qd13_0 : sq_in 13 0 (.iload_n 0) 1 := by decide +kernel
theorem qd13_1 : sq_in 13 1 (.lookupswitch 52 #[(108, 43), (109, 50), (118, 45), (119, 47)]) 43 := by decide +kernel
theorem qd13_44 : sq_in 13 44 (.iconst 1) 1 := by decide +kernel
theorem qd13_45 : sq_in 13 45 (.ireturn) 1 := by decide +kernel
theorem qd13_46 : sq_in 13 46 (.iconst 5) 1 := by decide +kernel
theorem qd13_47 : sq_in 13 47 (.ireturn) 1 := by decide +kernel
theorem qd13_48 : sq_in 13 48 (.bipush 7) 2 := by decide +kernel
theorem qd13_50 : sq_in 13 50 (.ireturn) 1 := by decide +kernel
theorem qd13_51 : sq_in 13 51 (.iconst 3) 1 := by decide +kernel
theorem qd13_52 : sq_in 13 52 (.ireturn) 1 := by decide +kernel
theorem qd13_53 : sq_in 13 53 (.iconst (-1)) 1 := by decide +kernel
theorem qd13_54 : sq_in 13 54 (.ireturn) 1 := by decide +kernel
-- 14: SewingPiles$OrderText.stateBehindPart(I)I
theorem qd14_0 : sq_in 14 0 (.iload_n 0) 1 := by decide +kernel
theorem qd14_1 : sq_in 14 1 (.bipush 59) 2 := by decide +kernel
theorem qd14_3 : sq_in 14 3 (.if_icmp .ne 7) 3 := by decide +kernel
theorem qd14_6 : sq_in 14 6 (.iconst 0) 1 := by decide +kernel
theorem qd14_7 : sq_in 14 7 (.goto 4) 3 := by decide +kernel
theorem qd14_10 : sq_in 14 10 (.iconst (-1)) 1 := by decide +kernel
theorem qd14_11 : sq_in 14 11 (.ireturn) 1 := by decide +kernel
-- 15: SewingPiles$OrderText.isFrom(III)Z
theorem qd15_0 : sq_in 15 0 (.iload_n 1) 1 := by decide +kernel
theorem qd15_1 : sq_in 15 1 (.iload_n 0) 1 := by decide +kernel
theorem qd15_2 : sq_in 15 2 (.if_icmp .lt 12) 3 := by decide +kernel
theorem qd15_5 : sq_in 15 5 (.iload_n 1) 1 := by decide +kernel
theorem qd15_6 : sq_in 15 6 (.iload_n 2) 1 := by decide +kernel
theorem qd15_7 : sq_in 15 7 (.if_icmp .gt 7) 3 := by decide +kernel
theorem qd15_10 : sq_in 15 10 (.iconst 1) 1 := by decide +kernel
theorem qd15_11 : sq_in 15 11 (.goto 4) 3 := by decide +kernel
theorem qd15_14 : sq_in 15 14 (.iconst 0) 1 := by decide +kernel
theorem qd15_15 : sq_in 15 15 (.ireturn) 1 := by decide +kernel
-- 16: SewingPiles$Piles.<init>()V
theorem qd16_0 : sq_in 16 0 (.aload_n 0) 1 := by decide +kernel
theorem qd16_1 : sq_in 16 1 (.invokespecial 3) 3 := by decide +kernel
theorem qd16_4 : sq_in 16 4 (.aload_n 0) 1 := by decide +kernel
theorem qd16_5 : sq_in 16 5 (.bipush 7) 2 := by decide +kernel
theorem qd16_7 : sq_in 16 7 (.newarray .int) 2 := by decide +kernel
theorem qd16_9 : sq_in 16 9 (.putfield 11) 3 := by decide +kernel
theorem qd16_12 : sq_in 16 12 (.aload_n 0) 1 := by decide +kernel
theorem qd16_13 : sq_in 16 13 (.bipush 7) 2 := by decide +kernel
theorem qd16_15 : sq_in 16 15 (.bipush 16) 2 := by decide +kernel
theorem qd16_17 : sq_in 16 17 (.multianewarray 17 2) 4 := by decide +kernel
theorem qd16_21 : sq_in 16 21 (.putfield 19) 3 := by decide +kernel
theorem qd16_24 : sq_in 16 24 (.return_) 1 := by decide +kernel
-- 17: SewingPiles$Piles.copyFrom(LSewingPiles$Piles;)V
theorem qd17_0 : sq_in 17 0 (.iconst 0) 1 := by decide +kernel
theorem qd17_1 : sq_in 17 1 (.istore_n 2) 1 := by decide +kernel
theorem qd17_2 : sq_in 17 2 (.iload_n 2) 1 := by decide +kernel
theorem qd17_3 : sq_in 17 3 (.bipush 7) 2 := by decide +kernel
theorem qd17_5 : sq_in 17 5 (.if_icmp .ge 51) 3 := by decide +kernel
theorem qd17_8 : sq_in 17 8 (.aload_n 0) 1 := by decide +kernel
theorem qd17_9 : sq_in 17 9 (.getfield 11) 3 := by decide +kernel
theorem qd17_12 : sq_in 17 12 (.iload_n 2) 1 := by decide +kernel
theorem qd17_13 : sq_in 17 13 (.aload_n 1) 1 := by decide +kernel
theorem qd17_14 : sq_in 17 14 (.getfield 11) 3 := by decide +kernel
theorem qd17_17 : sq_in 17 17 (.iload_n 2) 1 := by decide +kernel
theorem qd17_18 : sq_in 17 18 (.iaload) 1 := by decide +kernel
theorem qd17_19 : sq_in 17 19 (.iastore) 1 := by decide +kernel
theorem qd17_20 : sq_in 17 20 (.iconst 0) 1 := by decide +kernel
theorem qd17_21 : sq_in 17 21 (.istore_n 3) 1 := by decide +kernel
theorem qd17_22 : sq_in 17 22 (.iload_n 3) 1 := by decide +kernel
theorem qd17_23 : sq_in 17 23 (.bipush 16) 2 := by decide +kernel
theorem qd17_25 : sq_in 17 25 (.if_icmp .ge 25) 3 := by decide +kernel
theorem qd17_28 : sq_in 17 28 (.aload_n 0) 1 := by decide +kernel
theorem qd17_29 : sq_in 17 29 (.getfield 19) 3 := by decide +kernel
theorem qd17_32 : sq_in 17 32 (.iload_n 2) 1 := by decide +kernel
theorem qd17_33 : sq_in 17 33 (.aaload) 1 := by decide +kernel
theorem qd17_34 : sq_in 17 34 (.iload_n 3) 1 := by decide +kernel
theorem qd17_35 : sq_in 17 35 (.aload_n 1) 1 := by decide +kernel
theorem qd17_36 : sq_in 17 36 (.getfield 19) 3 := by decide +kernel
theorem qd17_39 : sq_in 17 39 (.iload_n 2) 1 := by decide +kernel
theorem qd17_40 : sq_in 17 40 (.aaload) 1 := by decide +kernel
theorem qd17_41 : sq_in 17 41 (.iload_n 3) 1 := by decide +kernel
theorem qd17_42 : sq_in 17 42 (.iaload) 1 := by decide +kernel
theorem qd17_43 : sq_in 17 43 (.iastore) 1 := by decide +kernel
theorem qd17_44 : sq_in 17 44 (.iinc 3 1) 3 := by decide +kernel
theorem qd17_47 : sq_in 17 47 (.goto (-25)) 3 := by decide +kernel
theorem qd17_50 : sq_in 17 50 (.iinc 2 1) 3 := by decide +kernel
theorem qd17_53 : sq_in 17 53 (.goto (-51)) 3 := by decide +kernel
theorem qd17_56 : sq_in 17 56 (.return_) 1 := by decide +kernel
-- 18: SewingPiles$Piles.height(I)I
theorem qd18_0 : sq_in 18 0 (.iload_n 1) 1 := by decide +kernel
theorem qd18_1 : sq_in 18 1 (.ifCond .lt 18) 3 := by decide +kernel
theorem qd18_4 : sq_in 18 4 (.iload_n 1) 1 := by decide +kernel
theorem qd18_5 : sq_in 18 5 (.bipush 7) 2 := by decide +kernel
theorem qd18_7 : sq_in 18 7 (.if_icmp .ge 12) 3 := by decide +kernel
theorem qd18_10 : sq_in 18 10 (.aload_n 0) 1 := by decide +kernel
theorem qd18_11 : sq_in 18 11 (.getfield 11) 3 := by decide +kernel
theorem qd18_14 : sq_in 18 14 (.iload_n 1) 1 := by decide +kernel
theorem qd18_15 : sq_in 18 15 (.iaload) 1 := by decide +kernel
theorem qd18_16 : sq_in 18 16 (.goto 4) 3 := by decide +kernel
theorem qd18_19 : sq_in 18 19 (.iconst 0) 1 := by decide +kernel
theorem qd18_20 : sq_in 18 20 (.ireturn) 1 := by decide +kernel
-- 19: SewingPiles$Piles.at(II)I
theorem qd19_0 : sq_in 19 0 (.iload_n 1) 1 := by decide +kernel
theorem qd19_1 : sq_in 19 1 (.ifCond .lt 19) 3 := by decide +kernel
theorem qd19_4 : sq_in 19 4 (.iload_n 1) 1 := by decide +kernel
theorem qd19_5 : sq_in 19 5 (.bipush 7) 2 := by decide +kernel
theorem qd19_7 : sq_in 19 7 (.if_icmp .ge 13) 3 := by decide +kernel
theorem qd19_10 : sq_in 19 10 (.iload_n 2) 1 := by decide +kernel
theorem qd19_11 : sq_in 19 11 (.ifCond .lt 9) 3 := by decide +kernel
theorem qd19_14 : sq_in 19 14 (.iload_n 2) 1 := by decide +kernel
theorem qd19_15 : sq_in 19 15 (.bipush 16) 2 := by decide +kernel
theorem qd19_17 : sq_in 19 17 (.if_icmp .lt 5) 3 := by decide +kernel
theorem qd19_20 : sq_in 19 20 (.iconst (-1)) 1 := by decide +kernel
theorem qd19_21 : sq_in 19 21 (.ireturn) 1 := by decide +kernel
theorem qd19_22 : sq_in 19 22 (.iload_n 2) 1 := by decide +kernel
theorem qd19_23 : sq_in 19 23 (.aload_n 0) 1 := by decide +kernel
theorem qd19_24 : sq_in 19 24 (.getfield 11) 3 := by decide +kernel
theorem qd19_27 : sq_in 19 27 (.iload_n 1) 1 := by decide +kernel
theorem qd19_28 : sq_in 19 28 (.iaload) 1 := by decide +kernel
theorem qd19_29 : sq_in 19 29 (.if_icmp .ge 14) 3 := by decide +kernel
theorem qd19_32 : sq_in 19 32 (.aload_n 0) 1 := by decide +kernel
theorem qd19_33 : sq_in 19 33 (.getfield 19) 3 := by decide +kernel
theorem qd19_36 : sq_in 19 36 (.iload_n 1) 1 := by decide +kernel
theorem qd19_37 : sq_in 19 37 (.aaload) 1 := by decide +kernel
theorem qd19_38 : sq_in 19 38 (.iload_n 2) 1 := by decide +kernel
theorem qd19_39 : sq_in 19 39 (.iaload) 1 := by decide +kernel
theorem qd19_40 : sq_in 19 40 (.goto 4) 3 := by decide +kernel
theorem qd19_43 : sq_in 19 43 (.iconst (-1)) 1 := by decide +kernel
theorem qd19_44 : sq_in 19 44 (.ireturn) 1 := by decide +kernel
-- 20: SewingPiles$Piles.putNear(II)V
theorem qd20_0 : sq_in 20 0 (.iload_n 1) 1 := by decide +kernel
theorem qd20_1 : sq_in 20 1 (.ifCond .lt 9) 3 := by decide +kernel
theorem qd20_4 : sq_in 20 4 (.iload_n 1) 1 := by decide +kernel
theorem qd20_5 : sq_in 20 5 (.bipush 7) 2 := by decide +kernel
theorem qd20_7 : sq_in 20 7 (.if_icmp .lt 4) 3 := by decide +kernel
theorem qd20_10 : sq_in 20 10 (.return_) 1 := by decide +kernel
theorem qd20_11 : sq_in 20 11 (.aload_n 0) 1 := by decide +kernel
theorem qd20_12 : sq_in 20 12 (.getfield 11) 3 := by decide +kernel
theorem qd20_15 : sq_in 20 15 (.iload_n 1) 1 := by decide +kernel
theorem qd20_16 : sq_in 20 16 (.iaload) 1 := by decide +kernel
theorem qd20_17 : sq_in 20 17 (.istore_n 3) 1 := by decide +kernel
theorem qd20_18 : sq_in 20 18 (.iload_n 3) 1 := by decide +kernel
theorem qd20_19 : sq_in 20 19 (.ifCond .lt 27) 3 := by decide +kernel
theorem qd20_22 : sq_in 20 22 (.iload_n 3) 1 := by decide +kernel
theorem qd20_23 : sq_in 20 23 (.bipush 16) 2 := by decide +kernel
theorem qd20_25 : sq_in 20 25 (.if_icmp .ge 21) 3 := by decide +kernel
theorem qd20_28 : sq_in 20 28 (.aload_n 0) 1 := by decide +kernel
theorem qd20_29 : sq_in 20 29 (.getfield 19) 3 := by decide +kernel
theorem qd20_32 : sq_in 20 32 (.iload_n 1) 1 := by decide +kernel
theorem qd20_33 : sq_in 20 33 (.aaload) 1 := by decide +kernel
theorem qd20_34 : sq_in 20 34 (.iload_n 3) 1 := by decide +kernel
theorem qd20_35 : sq_in 20 35 (.iload_n 2) 1 := by decide +kernel
theorem qd20_36 : sq_in 20 36 (.iastore) 1 := by decide +kernel
theorem qd20_37 : sq_in 20 37 (.aload_n 0) 1 := by decide +kernel
theorem qd20_38 : sq_in 20 38 (.getfield 11) 3 := by decide +kernel
theorem qd20_41 : sq_in 20 41 (.iload_n 1) 1 := by decide +kernel
theorem qd20_42 : sq_in 20 42 (.iload_n 3) 1 := by decide +kernel
theorem qd20_43 : sq_in 20 43 (.iconst 1) 1 := by decide +kernel
theorem qd20_44 : sq_in 20 44 (.iadd) 1 := by decide +kernel
theorem qd20_45 : sq_in 20 45 (.iastore) 1 := by decide +kernel
theorem qd20_46 : sq_in 20 46 (.return_) 1 := by decide +kernel
-- 21: SewingPiles$Piles.takeNear(I)I
theorem qd21_0 : sq_in 21 0 (.iload_n 1) 1 := by decide +kernel
theorem qd21_1 : sq_in 21 1 (.ifCond .lt 9) 3 := by decide +kernel
theorem qd21_4 : sq_in 21 4 (.iload_n 1) 1 := by decide +kernel
theorem qd21_5 : sq_in 21 5 (.bipush 7) 2 := by decide +kernel
theorem qd21_7 : sq_in 21 7 (.if_icmp .lt 5) 3 := by decide +kernel
theorem qd21_10 : sq_in 21 10 (.iconst (-1)) 1 := by decide +kernel
theorem qd21_11 : sq_in 21 11 (.ireturn) 1 := by decide +kernel
theorem qd21_12 : sq_in 21 12 (.aload_n 0) 1 := by decide +kernel
theorem qd21_13 : sq_in 21 13 (.getfield 11) 3 := by decide +kernel
theorem qd21_16 : sq_in 21 16 (.iload_n 1) 1 := by decide +kernel
theorem qd21_17 : sq_in 21 17 (.iaload) 1 := by decide +kernel
theorem qd21_18 : sq_in 21 18 (.iconst 1) 1 := by decide +kernel
theorem qd21_19 : sq_in 21 19 (.isub) 1 := by decide +kernel
theorem qd21_20 : sq_in 21 20 (.istore_n 2) 1 := by decide +kernel
theorem qd21_21 : sq_in 21 21 (.iload_n 2) 1 := by decide +kernel
theorem qd21_22 : sq_in 21 22 (.ifCond .lt 9) 3 := by decide +kernel
theorem qd21_25 : sq_in 21 25 (.iload_n 2) 1 := by decide +kernel
theorem qd21_26 : sq_in 21 26 (.bipush 16) 2 := by decide +kernel
theorem qd21_28 : sq_in 21 28 (.if_icmp .lt 5) 3 := by decide +kernel
theorem qd21_31 : sq_in 21 31 (.iconst (-1)) 1 := by decide +kernel
theorem qd21_32 : sq_in 21 32 (.ireturn) 1 := by decide +kernel
theorem qd21_33 : sq_in 21 33 (.aload_n 0) 1 := by decide +kernel
theorem qd21_34 : sq_in 21 34 (.getfield 11) 3 := by decide +kernel
theorem qd21_37 : sq_in 21 37 (.iload_n 1) 1 := by decide +kernel
theorem qd21_38 : sq_in 21 38 (.iload_n 2) 1 := by decide +kernel
theorem qd21_39 : sq_in 21 39 (.iastore) 1 := by decide +kernel
theorem qd21_40 : sq_in 21 40 (.aload_n 0) 1 := by decide +kernel
theorem qd21_41 : sq_in 21 41 (.getfield 19) 3 := by decide +kernel
theorem qd21_44 : sq_in 21 44 (.iload_n 1) 1 := by decide +kernel
theorem qd21_45 : sq_in 21 45 (.aaload) 1 := by decide +kernel
theorem qd21_46 : sq_in 21 46 (.iload_n 2) 1 := by decide +kernel
theorem qd21_47 : sq_in 21 47 (.iaload) 1 := by decide +kernel
theorem qd21_48 : sq_in 21 48 (.ireturn) 1 := by decide +kernel
-- 22: SewingPiles$Piles.takeFar(I)I
theorem qd22_0 : sq_in 22 0 (.iload_n 1) 1 := by decide +kernel
theorem qd22_1 : sq_in 22 1 (.ifCond .lt 19) 3 := by decide +kernel
theorem qd22_4 : sq_in 22 4 (.iload_n 1) 1 := by decide +kernel
theorem qd22_5 : sq_in 22 5 (.bipush 7) 2 := by decide +kernel
theorem qd22_7 : sq_in 22 7 (.if_icmp .ge 13) 3 := by decide +kernel
theorem qd22_10 : sq_in 22 10 (.aload_n 0) 1 := by decide +kernel
theorem qd22_11 : sq_in 22 11 (.getfield 11) 3 := by decide +kernel
theorem qd22_14 : sq_in 22 14 (.iload_n 1) 1 := by decide +kernel
theorem qd22_15 : sq_in 22 15 (.iaload) 1 := by decide +kernel
theorem qd22_16 : sq_in 22 16 (.iconst 1) 1 := by decide +kernel
theorem qd22_17 : sq_in 22 17 (.if_icmp .ge 5) 3 := by decide +kernel
theorem qd22_20 : sq_in 22 20 (.iconst (-1)) 1 := by decide +kernel
theorem qd22_21 : sq_in 22 21 (.ireturn) 1 := by decide +kernel
theorem qd22_22 : sq_in 22 22 (.aload_n 0) 1 := by decide +kernel
theorem qd22_23 : sq_in 22 23 (.getfield 19) 3 := by decide +kernel
theorem qd22_26 : sq_in 22 26 (.iload_n 1) 1 := by decide +kernel
theorem qd22_27 : sq_in 22 27 (.aaload) 1 := by decide +kernel
theorem qd22_28 : sq_in 22 28 (.iconst 0) 1 := by decide +kernel
theorem qd22_29 : sq_in 22 29 (.iaload) 1 := by decide +kernel
theorem qd22_30 : sq_in 22 30 (.istore_n 2) 1 := by decide +kernel
theorem qd22_31 : sq_in 22 31 (.iconst 1) 1 := by decide +kernel
theorem qd22_32 : sq_in 22 32 (.istore_n 3) 1 := by decide +kernel
theorem qd22_33 : sq_in 22 33 (.iload_n 3) 1 := by decide +kernel
theorem qd22_34 : sq_in 22 34 (.bipush 16) 2 := by decide +kernel
theorem qd22_36 : sq_in 22 36 (.if_icmp .ge 27) 3 := by decide +kernel
theorem qd22_39 : sq_in 22 39 (.aload_n 0) 1 := by decide +kernel
theorem qd22_40 : sq_in 22 40 (.getfield 19) 3 := by decide +kernel
theorem qd22_43 : sq_in 22 43 (.iload_n 1) 1 := by decide +kernel
theorem qd22_44 : sq_in 22 44 (.aaload) 1 := by decide +kernel
theorem qd22_45 : sq_in 22 45 (.iload_n 3) 1 := by decide +kernel
theorem qd22_46 : sq_in 22 46 (.iconst 1) 1 := by decide +kernel
theorem qd22_47 : sq_in 22 47 (.isub) 1 := by decide +kernel
theorem qd22_48 : sq_in 22 48 (.aload_n 0) 1 := by decide +kernel
theorem qd22_49 : sq_in 22 49 (.getfield 19) 3 := by decide +kernel
theorem qd22_52 : sq_in 22 52 (.iload_n 1) 1 := by decide +kernel
theorem qd22_53 : sq_in 22 53 (.aaload) 1 := by decide +kernel
theorem qd22_54 : sq_in 22 54 (.iload_n 3) 1 := by decide +kernel
theorem qd22_55 : sq_in 22 55 (.iaload) 1 := by decide +kernel
theorem qd22_56 : sq_in 22 56 (.iastore) 1 := by decide +kernel
theorem qd22_57 : sq_in 22 57 (.iinc 3 1) 3 := by decide +kernel
theorem qd22_60 : sq_in 22 60 (.goto (-27)) 3 := by decide +kernel
theorem qd22_63 : sq_in 22 63 (.aload_n 0) 1 := by decide +kernel
theorem qd22_64 : sq_in 22 64 (.getfield 11) 3 := by decide +kernel
theorem qd22_67 : sq_in 22 67 (.iload_n 1) 1 := by decide +kernel
theorem qd22_68 : sq_in 22 68 (.dup2) 1 := by decide +kernel
theorem qd22_69 : sq_in 22 69 (.iaload) 1 := by decide +kernel
theorem qd22_70 : sq_in 22 70 (.iconst 1) 1 := by decide +kernel
theorem qd22_71 : sq_in 22 71 (.isub) 1 := by decide +kernel
theorem qd22_72 : sq_in 22 72 (.iastore) 1 := by decide +kernel
theorem qd22_73 : sq_in 22 73 (.iload_n 2) 1 := by decide +kernel
theorem qd22_74 : sq_in 22 74 (.ireturn) 1 := by decide +kernel
-- 23: SewingPiles$Room.<init>()V
theorem qd23_0 : sq_in 23 0 (.aload_n 0) 1 := by decide +kernel
theorem qd23_1 : sq_in 23 1 (.invokespecial 3) 3 := by decide +kernel
theorem qd23_4 : sq_in 23 4 (.aload_n 0) 1 := by decide +kernel
theorem qd23_5 : sq_in 23 5 (.iconst 2) 1 := by decide +kernel
theorem qd23_6 : sq_in 23 6 (.putfield 9) 3 := by decide +kernel
theorem qd23_9 : sq_in 23 9 (.aload_n 0) 1 := by decide +kernel
theorem qd23_10 : sq_in 23 10 (.iconst 3) 1 := by decide +kernel
theorem qd23_11 : sq_in 23 11 (.newarray .int) 2 := by decide +kernel
theorem qd23_13 : sq_in 23 13 (.dup) 1 := by decide +kernel
theorem qd23_14 : sq_in 23 14 (.iconst 0) 1 := by decide +kernel
theorem qd23_15 : sq_in 23 15 (.bipush 20) 2 := by decide +kernel
theorem qd23_17 : sq_in 23 17 (.iastore) 1 := by decide +kernel
theorem qd23_18 : sq_in 23 18 (.dup) 1 := by decide +kernel
theorem qd23_19 : sq_in 23 19 (.iconst 1) 1 := by decide +kernel
theorem qd23_20 : sq_in 23 20 (.iconst 0) 1 := by decide +kernel
theorem qd23_21 : sq_in 23 21 (.iastore) 1 := by decide +kernel
theorem qd23_22 : sq_in 23 22 (.dup) 1 := by decide +kernel
theorem qd23_23 : sq_in 23 23 (.iconst 2) 1 := by decide +kernel
theorem qd23_24 : sq_in 23 24 (.iconst 3) 1 := by decide +kernel
theorem qd23_25 : sq_in 23 25 (.iastore) 1 := by decide +kernel
theorem qd23_26 : sq_in 23 26 (.putfield 15) 3 := by decide +kernel
theorem qd23_29 : sq_in 23 29 (.aload_n 0) 1 := by decide +kernel
theorem qd23_30 : sq_in 23 30 (.bipush 7) 2 := by decide +kernel
theorem qd23_32 : sq_in 23 32 (.newarray .int) 2 := by decide +kernel
theorem qd23_34 : sq_in 23 34 (.putfield 19) 3 := by decide +kernel
theorem qd23_37 : sq_in 23 37 (.aload_n 0) 1 := by decide +kernel
theorem qd23_38 : sq_in 23 38 (.bipush 7) 2 := by decide +kernel
theorem qd23_40 : sq_in 23 40 (.newarray .int) 2 := by decide +kernel
theorem qd23_42 : sq_in 23 42 (.putfield 22) 3 := by decide +kernel
theorem qd23_45 : sq_in 23 45 (.aload_n 0) 1 := by decide +kernel
theorem qd23_46 : sq_in 23 46 (.bipush 7) 2 := by decide +kernel
theorem qd23_48 : sq_in 23 48 (.newarray .int) 2 := by decide +kernel
theorem qd23_50 : sq_in 23 50 (.putfield 25) 3 := by decide +kernel
theorem qd23_53 : sq_in 23 53 (.aload_n 0) 1 := by decide +kernel
theorem qd23_54 : sq_in 23 54 (.bipush 7) 2 := by decide +kernel
theorem qd23_56 : sq_in 23 56 (.newarray .boolean) 2 := by decide +kernel
theorem qd23_58 : sq_in 23 58 (.putfield 28) 3 := by decide +kernel
theorem qd23_61 : sq_in 23 61 (.aload_n 0) 1 := by decide +kernel
theorem qd23_62 : sq_in 23 62 (.bipush 7) 2 := by decide +kernel
theorem qd23_64 : sq_in 23 64 (.newarray .int) 2 := by decide +kernel
theorem qd23_66 : sq_in 23 66 (.putfield 32) 3 := by decide +kernel
theorem qd23_69 : sq_in 23 69 (.aload_n 0) 1 := by decide +kernel
theorem qd23_70 : sq_in 23 70 (.bipush 7) 2 := by decide +kernel
theorem qd23_72 : sq_in 23 72 (.newarray .int) 2 := by decide +kernel
theorem qd23_74 : sq_in 23 74 (.putfield 35) 3 := by decide +kernel
theorem qd23_77 : sq_in 23 77 (.aload_n 0) 1 := by decide +kernel
theorem qd23_78 : sq_in 23 78 (.bipush 7) 2 := by decide +kernel
theorem qd23_80 : sq_in 23 80 (.newarray .int) 2 := by decide +kernel
theorem qd23_82 : sq_in 23 82 (.putfield 38) 3 := by decide +kernel
theorem qd23_85 : sq_in 23 85 (.aload_n 0) 1 := by decide +kernel
theorem qd23_86 : sq_in 23 86 (.bipush 7) 2 := by decide +kernel
theorem qd23_88 : sq_in 23 88 (.newarray .int) 2 := by decide +kernel
theorem qd23_90 : sq_in 23 90 (.putfield 41) 3 := by decide +kernel
theorem qd23_93 : sq_in 23 93 (.aload_n 0) 1 := by decide +kernel
theorem qd23_94 : sq_in 23 94 (.new 44) 3 := by decide +kernel
theorem qd23_97 : sq_in 23 97 (.dup) 1 := by decide +kernel
theorem qd23_98 : sq_in 23 98 (.invokespecial 46) 3 := by decide +kernel
theorem qd23_101 : sq_in 23 101 (.putfield 47) 3 := by decide +kernel
theorem qd23_104 : sq_in 23 104 (.aload_n 0) 1 := by decide +kernel
theorem qd23_105 : sq_in 23 105 (.new 51) 3 := by decide +kernel
theorem qd23_108 : sq_in 23 108 (.dup) 1 := by decide +kernel
theorem qd23_109 : sq_in 23 109 (.invokespecial 53) 3 := by decide +kernel
theorem qd23_112 : sq_in 23 112 (.putfield 54) 3 := by decide +kernel
theorem qd23_115 : sq_in 23 115 (.iconst 0) 1 := by decide +kernel
theorem qd23_116 : sq_in 23 116 (.istore_n 1) 1 := by decide +kernel
theorem qd23_117 : sq_in 23 117 (.iload_n 1) 1 := by decide +kernel
theorem qd23_118 : sq_in 23 118 (.bipush 7) 2 := by decide +kernel
theorem qd23_120 : sq_in 23 120 (.if_icmp .ge 23) 3 := by decide +kernel
theorem qd23_123 : sq_in 23 123 (.aload_n 0) 1 := by decide +kernel
theorem qd23_124 : sq_in 23 124 (.getfield 19) 3 := by decide +kernel
theorem qd23_127 : sq_in 23 127 (.iload_n 1) 1 := by decide +kernel
theorem qd23_128 : sq_in 23 128 (.iconst 1) 1 := by decide +kernel
theorem qd23_129 : sq_in 23 129 (.iastore) 1 := by decide +kernel
theorem qd23_130 : sq_in 23 130 (.aload_n 0) 1 := by decide +kernel
theorem qd23_131 : sq_in 23 131 (.getfield 22) 3 := by decide +kernel
theorem qd23_134 : sq_in 23 134 (.iload_n 1) 1 := by decide +kernel
theorem qd23_135 : sq_in 23 135 (.iconst (-1)) 1 := by decide +kernel
theorem qd23_136 : sq_in 23 136 (.iastore) 1 := by decide +kernel
theorem qd23_137 : sq_in 23 137 (.iinc 1 1) 3 := by decide +kernel
theorem qd23_140 : sq_in 23 140 (.goto (-23)) 3 := by decide +kernel
theorem qd23_143 : sq_in 23 143 (.return_) 1 := by decide +kernel
-- 24: SewingPiles$Room.copyFrom(LSewingPiles$Room;)V
theorem qd24_0 : sq_in 24 0 (.aload_n 0) 1 := by decide +kernel
theorem qd24_1 : sq_in 24 1 (.aload_n 1) 1 := by decide +kernel
theorem qd24_2 : sq_in 24 2 (.getfield 58) 3 := by decide +kernel
theorem qd24_5 : sq_in 24 5 (.putfield 58) 3 := by decide +kernel
theorem qd24_8 : sq_in 24 8 (.aload_n 0) 1 := by decide +kernel
theorem qd24_9 : sq_in 24 9 (.aload_n 1) 1 := by decide +kernel
theorem qd24_10 : sq_in 24 10 (.getfield 9) 3 := by decide +kernel
theorem qd24_13 : sq_in 24 13 (.putfield 9) 3 := by decide +kernel
theorem qd24_16 : sq_in 24 16 (.aload_n 0) 1 := by decide +kernel
theorem qd24_17 : sq_in 24 17 (.aload_n 1) 1 := by decide +kernel
theorem qd24_18 : sq_in 24 18 (.getfield 61) 3 := by decide +kernel
theorem qd24_21 : sq_in 24 21 (.putfield 61) 3 := by decide +kernel
theorem qd24_24 : sq_in 24 24 (.aload_n 0) 1 := by decide +kernel
theorem qd24_25 : sq_in 24 25 (.aload_n 1) 1 := by decide +kernel
theorem qd24_26 : sq_in 24 26 (.getfield 64) 3 := by decide +kernel
theorem qd24_29 : sq_in 24 29 (.putfield 64) 3 := by decide +kernel
theorem qd24_32 : sq_in 24 32 (.iconst 0) 1 := by decide +kernel
theorem qd24_33 : sq_in 24 33 (.istore_n 2) 1 := by decide +kernel
theorem qd24_34 : sq_in 24 34 (.iload_n 2) 1 := by decide +kernel
theorem qd24_35 : sq_in 24 35 (.iconst 3) 1 := by decide +kernel
theorem qd24_36 : sq_in 24 36 (.if_icmp .ge 21) 3 := by decide +kernel
theorem qd24_39 : sq_in 24 39 (.aload_n 0) 1 := by decide +kernel
theorem qd24_40 : sq_in 24 40 (.getfield 15) 3 := by decide +kernel
theorem qd24_43 : sq_in 24 43 (.iload_n 2) 1 := by decide +kernel
theorem qd24_44 : sq_in 24 44 (.aload_n 1) 1 := by decide +kernel
theorem qd24_45 : sq_in 24 45 (.getfield 15) 3 := by decide +kernel
theorem qd24_48 : sq_in 24 48 (.iload_n 2) 1 := by decide +kernel
theorem qd24_49 : sq_in 24 49 (.iaload) 1 := by decide +kernel
theorem qd24_50 : sq_in 24 50 (.iastore) 1 := by decide +kernel
theorem qd24_51 : sq_in 24 51 (.iinc 2 1) 3 := by decide +kernel
theorem qd24_54 : sq_in 24 54 (.goto (-20)) 3 := by decide +kernel
theorem qd24_57 : sq_in 24 57 (.iconst 0) 1 := by decide +kernel
theorem qd24_58 : sq_in 24 58 (.istore_n 2) 1 := by decide +kernel
theorem qd24_59 : sq_in 24 59 (.iload_n 2) 1 := by decide +kernel
theorem qd24_60 : sq_in 24 60 (.bipush 7) 2 := by decide +kernel
theorem qd24_62 : sq_in 24 62 (.if_icmp .ge 105) 3 := by decide +kernel
theorem qd24_65 : sq_in 24 65 (.aload_n 0) 1 := by decide +kernel
theorem qd24_66 : sq_in 24 66 (.getfield 19) 3 := by decide +kernel
theorem qd24_69 : sq_in 24 69 (.iload_n 2) 1 := by decide +kernel
theorem qd24_70 : sq_in 24 70 (.aload_n 1) 1 := by decide +kernel
theorem qd24_71 : sq_in 24 71 (.getfield 19) 3 := by decide +kernel
theorem qd24_74 : sq_in 24 74 (.iload_n 2) 1 := by decide +kernel
theorem qd24_75 : sq_in 24 75 (.iaload) 1 := by decide +kernel
theorem qd24_76 : sq_in 24 76 (.iastore) 1 := by decide +kernel
theorem qd24_77 : sq_in 24 77 (.aload_n 0) 1 := by decide +kernel
theorem qd24_78 : sq_in 24 78 (.getfield 22) 3 := by decide +kernel
theorem qd24_81 : sq_in 24 81 (.iload_n 2) 1 := by decide +kernel
theorem qd24_82 : sq_in 24 82 (.aload_n 1) 1 := by decide +kernel
theorem qd24_83 : sq_in 24 83 (.getfield 22) 3 := by decide +kernel
theorem qd24_86 : sq_in 24 86 (.iload_n 2) 1 := by decide +kernel
theorem qd24_87 : sq_in 24 87 (.iaload) 1 := by decide +kernel
theorem qd24_88 : sq_in 24 88 (.iastore) 1 := by decide +kernel
theorem qd24_89 : sq_in 24 89 (.aload_n 0) 1 := by decide +kernel
theorem qd24_90 : sq_in 24 90 (.getfield 25) 3 := by decide +kernel
theorem qd24_93 : sq_in 24 93 (.iload_n 2) 1 := by decide +kernel
theorem qd24_94 : sq_in 24 94 (.aload_n 1) 1 := by decide +kernel
theorem qd24_95 : sq_in 24 95 (.getfield 25) 3 := by decide +kernel
theorem qd24_98 : sq_in 24 98 (.iload_n 2) 1 := by decide +kernel
theorem qd24_99 : sq_in 24 99 (.iaload) 1 := by decide +kernel
theorem qd24_100 : sq_in 24 100 (.iastore) 1 := by decide +kernel
theorem qd24_101 : sq_in 24 101 (.aload_n 0) 1 := by decide +kernel
theorem qd24_102 : sq_in 24 102 (.getfield 28) 3 := by decide +kernel
theorem qd24_105 : sq_in 24 105 (.iload_n 2) 1 := by decide +kernel
theorem qd24_106 : sq_in 24 106 (.aload_n 1) 1 := by decide +kernel
theorem qd24_107 : sq_in 24 107 (.getfield 28) 3 := by decide +kernel
theorem qd24_110 : sq_in 24 110 (.iload_n 2) 1 := by decide +kernel
theorem qd24_111 : sq_in 24 111 (.baload) 1 := by decide +kernel
theorem qd24_112 : sq_in 24 112 (.bastore) 1 := by decide +kernel
theorem qd24_113 : sq_in 24 113 (.aload_n 0) 1 := by decide +kernel
theorem qd24_114 : sq_in 24 114 (.getfield 32) 3 := by decide +kernel
theorem qd24_117 : sq_in 24 117 (.iload_n 2) 1 := by decide +kernel
theorem qd24_118 : sq_in 24 118 (.aload_n 1) 1 := by decide +kernel
theorem qd24_119 : sq_in 24 119 (.getfield 32) 3 := by decide +kernel
theorem qd24_122 : sq_in 24 122 (.iload_n 2) 1 := by decide +kernel
theorem qd24_123 : sq_in 24 123 (.iaload) 1 := by decide +kernel
theorem qd24_124 : sq_in 24 124 (.iastore) 1 := by decide +kernel
theorem qd24_125 : sq_in 24 125 (.aload_n 0) 1 := by decide +kernel
theorem qd24_126 : sq_in 24 126 (.getfield 35) 3 := by decide +kernel
theorem qd24_129 : sq_in 24 129 (.iload_n 2) 1 := by decide +kernel
theorem qd24_130 : sq_in 24 130 (.aload_n 1) 1 := by decide +kernel
theorem qd24_131 : sq_in 24 131 (.getfield 35) 3 := by decide +kernel
theorem qd24_134 : sq_in 24 134 (.iload_n 2) 1 := by decide +kernel
theorem qd24_135 : sq_in 24 135 (.iaload) 1 := by decide +kernel
theorem qd24_136 : sq_in 24 136 (.iastore) 1 := by decide +kernel
theorem qd24_137 : sq_in 24 137 (.aload_n 0) 1 := by decide +kernel
theorem qd24_138 : sq_in 24 138 (.getfield 38) 3 := by decide +kernel
theorem qd24_141 : sq_in 24 141 (.iload_n 2) 1 := by decide +kernel
theorem qd24_142 : sq_in 24 142 (.aload_n 1) 1 := by decide +kernel
theorem qd24_143 : sq_in 24 143 (.getfield 38) 3 := by decide +kernel
theorem qd24_146 : sq_in 24 146 (.iload_n 2) 1 := by decide +kernel
theorem qd24_147 : sq_in 24 147 (.iaload) 1 := by decide +kernel
theorem qd24_148 : sq_in 24 148 (.iastore) 1 := by decide +kernel
theorem qd24_149 : sq_in 24 149 (.aload_n 0) 1 := by decide +kernel
theorem qd24_150 : sq_in 24 150 (.getfield 41) 3 := by decide +kernel
theorem qd24_153 : sq_in 24 153 (.iload_n 2) 1 := by decide +kernel
theorem qd24_154 : sq_in 24 154 (.aload_n 1) 1 := by decide +kernel
theorem qd24_155 : sq_in 24 155 (.getfield 41) 3 := by decide +kernel
theorem qd24_158 : sq_in 24 158 (.iload_n 2) 1 := by decide +kernel
theorem qd24_159 : sq_in 24 159 (.iaload) 1 := by decide +kernel
theorem qd24_160 : sq_in 24 160 (.iastore) 1 := by decide +kernel
theorem qd24_161 : sq_in 24 161 (.iinc 2 1) 3 := by decide +kernel
theorem qd24_164 : sq_in 24 164 (.goto (-105)) 3 := by decide +kernel
theorem qd24_167 : sq_in 24 167 (.aload_n 0) 1 := by decide +kernel
theorem qd24_168 : sq_in 24 168 (.getfield 47) 3 := by decide +kernel
theorem qd24_171 : sq_in 24 171 (.aload_n 1) 1 := by decide +kernel
theorem qd24_172 : sq_in 24 172 (.getfield 47) 3 := by decide +kernel
theorem qd24_175 : sq_in 24 175 (.invokevirtual 67) 3 := by decide +kernel
theorem qd24_178 : sq_in 24 178 (.aload_n 0) 1 := by decide +kernel
theorem qd24_179 : sq_in 24 179 (.getfield 54) 3 := by decide +kernel
theorem qd24_182 : sq_in 24 182 (.aload_n 1) 1 := by decide +kernel
theorem qd24_183 : sq_in 24 183 (.getfield 54) 3 := by decide +kernel
theorem qd24_186 : sq_in 24 186 (.invokevirtual 71) 3 := by decide +kernel
theorem qd24_189 : sq_in 24 189 (.return_) 1 := by decide +kernel
-- 25: SewingPiles$Room.hasSeamstress(I)Z
theorem qd25_0 : sq_in 25 0 (.iload_n 1) 1 := by decide +kernel
theorem qd25_1 : sq_in 25 1 (.ifCond .lt 21) 3 := by decide +kernel
theorem qd25_4 : sq_in 25 4 (.iload_n 1) 1 := by decide +kernel
theorem qd25_5 : sq_in 25 5 (.aload_n 0) 1 := by decide +kernel
theorem qd25_6 : sq_in 25 6 (.getfield 9) 3 := by decide +kernel
theorem qd25_9 : sq_in 25 9 (.if_icmp .ge 13) 3 := by decide +kernel
theorem qd25_12 : sq_in 25 12 (.iload_n 1) 1 := by decide +kernel
theorem qd25_13 : sq_in 25 13 (.bipush 7) 2 := by decide +kernel
theorem qd25_15 : sq_in 25 15 (.if_icmp .ge 7) 3 := by decide +kernel
theorem qd25_18 : sq_in 25 18 (.iconst 1) 1 := by decide +kernel
theorem qd25_19 : sq_in 25 19 (.goto 4) 3 := by decide +kernel
theorem qd25_22 : sq_in 25 22 (.iconst 0) 1 := by decide +kernel
theorem qd25_23 : sq_in 25 23 (.ireturn) 1 := by decide +kernel
-- 26: SewingPiles$Room.addSeamstress(I)I
theorem qd26_0 : sq_in 26 0 (.aload_n 0) 1 := by decide +kernel
theorem qd26_1 : sq_in 26 1 (.getfield 9) 3 := by decide +kernel
theorem qd26_4 : sq_in 26 4 (.ifCond .lt 12) 3 := by decide +kernel
theorem qd26_7 : sq_in 26 7 (.aload_n 0) 1 := by decide +kernel
theorem qd26_8 : sq_in 26 8 (.getfield 9) 3 := by decide +kernel
theorem qd26_11 : sq_in 26 11 (.bipush 7) 2 := by decide +kernel
theorem qd26_13 : sq_in 26 13 (.if_icmp .lt 5) 3 := by decide +kernel
theorem qd26_16 : sq_in 26 16 (.iconst (-1)) 1 := by decide +kernel
theorem qd26_17 : sq_in 26 17 (.ireturn) 1 := by decide +kernel
theorem qd26_18 : sq_in 26 18 (.aload_n 0) 1 := by decide +kernel
theorem qd26_19 : sq_in 26 19 (.getfield 19) 3 := by decide +kernel
theorem qd26_22 : sq_in 26 22 (.aload_n 0) 1 := by decide +kernel
theorem qd26_23 : sq_in 26 23 (.getfield 9) 3 := by decide +kernel
theorem qd26_26 : sq_in 26 26 (.iload_n 1) 1 := by decide +kernel
theorem qd26_27 : sq_in 26 27 (.iastore) 1 := by decide +kernel
theorem qd26_28 : sq_in 26 28 (.aload_n 0) 1 := by decide +kernel
theorem qd26_29 : sq_in 26 29 (.dup) 1 := by decide +kernel
theorem qd26_30 : sq_in 26 30 (.getfield 9) 3 := by decide +kernel
theorem qd26_33 : sq_in 26 33 (.iconst 1) 1 := by decide +kernel
theorem qd26_34 : sq_in 26 34 (.iadd) 1 := by decide +kernel
theorem qd26_35 : sq_in 26 35 (.putfield 9) 3 := by decide +kernel
theorem qd26_38 : sq_in 26 38 (.aload_n 0) 1 := by decide +kernel
theorem qd26_39 : sq_in 26 39 (.getfield 9) 3 := by decide +kernel
theorem qd26_42 : sq_in 26 42 (.iconst 1) 1 := by decide +kernel
theorem qd26_43 : sq_in 26 43 (.isub) 1 := by decide +kernel
theorem qd26_44 : sq_in 26 44 (.ireturn) 1 := by decide +kernel
-- 27: SewingPiles$Room.changeSpeed(II)I
theorem qd27_0 : sq_in 27 0 (.aload_n 0) 1 := by decide +kernel
theorem qd27_1 : sq_in 27 1 (.iload_n 1) 1 := by decide +kernel
theorem qd27_2 : sq_in 27 2 (.invokevirtual 74) 3 := by decide +kernel
theorem qd27_5 : sq_in 27 5 (.ifCond .ne 5) 3 := by decide +kernel
theorem qd27_8 : sq_in 27 8 (.iconst (-1)) 1 := by decide +kernel
theorem qd27_9 : sq_in 27 9 (.ireturn) 1 := by decide +kernel
theorem qd27_10 : sq_in 27 10 (.aload_n 0) 1 := by decide +kernel
theorem qd27_11 : sq_in 27 11 (.getfield 19) 3 := by decide +kernel
theorem qd27_14 : sq_in 27 14 (.iload_n 1) 1 := by decide +kernel
theorem qd27_15 : sq_in 27 15 (.iaload) 1 := by decide +kernel
theorem qd27_16 : sq_in 27 16 (.istore_n 3) 1 := by decide +kernel
theorem qd27_17 : sq_in 27 17 (.aload_n 0) 1 := by decide +kernel
theorem qd27_18 : sq_in 27 18 (.getfield 19) 3 := by decide +kernel
theorem qd27_21 : sq_in 27 21 (.iload_n 1) 1 := by decide +kernel
theorem qd27_22 : sq_in 27 22 (.iload_n 2) 1 := by decide +kernel
theorem qd27_23 : sq_in 27 23 (.iastore) 1 := by decide +kernel
theorem qd27_24 : sq_in 27 24 (.iload_n 3) 1 := by decide +kernel
theorem qd27_25 : sq_in 27 25 (.ireturn) 1 := by decide +kernel
-- 28: SewingPiles$Room.rouse(I)I
theorem qd28_0 : sq_in 28 0 (.aload_n 0) 1 := by decide +kernel
theorem qd28_1 : sq_in 28 1 (.iload_n 1) 1 := by decide +kernel
theorem qd28_2 : sq_in 28 2 (.invokevirtual 74) 3 := by decide +kernel
theorem qd28_5 : sq_in 28 5 (.ifCond .ne 5) 3 := by decide +kernel
theorem qd28_8 : sq_in 28 8 (.iconst (-1)) 1 := by decide +kernel
theorem qd28_9 : sq_in 28 9 (.ireturn) 1 := by decide +kernel
theorem qd28_10 : sq_in 28 10 (.aload_n 0) 1 := by decide +kernel
theorem qd28_11 : sq_in 28 11 (.getfield 28) 3 := by decide +kernel
theorem qd28_14 : sq_in 28 14 (.iload_n 1) 1 := by decide +kernel
theorem qd28_15 : sq_in 28 15 (.baload) 1 := by decide +kernel
theorem qd28_16 : sq_in 28 16 (.ifCond .eq 7) 3 := by decide +kernel
theorem qd28_19 : sq_in 28 19 (.iconst 1) 1 := by decide +kernel
theorem qd28_20 : sq_in 28 20 (.goto 4) 3 := by decide +kernel
theorem qd28_23 : sq_in 28 23 (.iconst 0) 1 := by decide +kernel
theorem qd28_24 : sq_in 28 24 (.istore_n 2) 1 := by decide +kernel
theorem qd28_25 : sq_in 28 25 (.aload_n 0) 1 := by decide +kernel
theorem qd28_26 : sq_in 28 26 (.getfield 28) 3 := by decide +kernel
theorem qd28_29 : sq_in 28 29 (.iload_n 1) 1 := by decide +kernel
theorem qd28_30 : sq_in 28 30 (.iconst 0) 1 := by decide +kernel
theorem qd28_31 : sq_in 28 31 (.bastore) 1 := by decide +kernel
theorem qd28_32 : sq_in 28 32 (.aload_n 0) 1 := by decide +kernel
theorem qd28_33 : sq_in 28 33 (.getfield 25) 3 := by decide +kernel
theorem qd28_36 : sq_in 28 36 (.iload_n 1) 1 := by decide +kernel
theorem qd28_37 : sq_in 28 37 (.iconst 0) 1 := by decide +kernel
theorem qd28_38 : sq_in 28 38 (.iastore) 1 := by decide +kernel
theorem qd28_39 : sq_in 28 39 (.iload_n 2) 1 := by decide +kernel
theorem qd28_40 : sq_in 28 40 (.ireturn) 1 := by decide +kernel
-- 29: SewingPiles$Room.canLayOnto(I)Z
theorem qd29_0 : sq_in 29 0 (.aload_n 0) 1 := by decide +kernel
theorem qd29_1 : sq_in 29 1 (.getfield 47) 3 := by decide +kernel
theorem qd29_4 : sq_in 29 4 (.iload_n 1) 1 := by decide +kernel
theorem qd29_5 : sq_in 29 5 (.invokevirtual 78) 3 := by decide +kernel
theorem qd29_8 : sq_in 29 8 (.bipush 16) 2 := by decide +kernel
theorem qd29_10 : sq_in 29 10 (.if_icmp .ge 19) 3 := by decide +kernel
theorem qd29_13 : sq_in 29 13 (.aload_n 0) 1 := by decide +kernel
theorem qd29_14 : sq_in 29 14 (.getfield 54) 3 := by decide +kernel
theorem qd29_17 : sq_in 29 17 (.getfield 82) 3 := by decide +kernel
theorem qd29_20 : sq_in 29 20 (.bipush 120) 2 := by decide +kernel
theorem qd29_22 : sq_in 29 22 (.if_icmp .ge 7) 3 := by decide +kernel
theorem qd29_25 : sq_in 29 25 (.iconst 1) 1 := by decide +kernel
theorem qd29_26 : sq_in 29 26 (.goto 4) 3 := by decide +kernel
theorem qd29_29 : sq_in 29 29 (.iconst 0) 1 := by decide +kernel
theorem qd29_30 : sq_in 29 30 (.ireturn) 1 := by decide +kernel
-- 30: SewingPiles$Room.layNewShirt(II)I
theorem qd30_0 : sq_in 30 0 (.aload_n 0) 1 := by decide +kernel
theorem qd30_1 : sq_in 30 1 (.getfield 54) 3 := by decide +kernel
theorem qd30_4 : sq_in 30 4 (.iload_n 1) 1 := by decide +kernel
theorem qd30_5 : sq_in 30 5 (.iload_n 2) 1 := by decide +kernel
theorem qd30_6 : sq_in 30 6 (.invokevirtual 85) 3 := by decide +kernel
theorem qd30_9 : sq_in 30 9 (.istore_n 3) 1 := by decide +kernel
theorem qd30_10 : sq_in 30 10 (.aload_n 0) 1 := by decide +kernel
theorem qd30_11 : sq_in 30 11 (.getfield 47) 3 := by decide +kernel
theorem qd30_14 : sq_in 30 14 (.iload_n 1) 1 := by decide +kernel
theorem qd30_15 : sq_in 30 15 (.iload_n 3) 1 := by decide +kernel
theorem qd30_16 : sq_in 30 16 (.invokevirtual 89) 3 := by decide +kernel
theorem qd30_19 : sq_in 30 19 (.aload_n 0) 1 := by decide +kernel
theorem qd30_20 : sq_in 30 20 (.invokevirtual 93) 3 := by decide +kernel
theorem qd30_23 : sq_in 30 23 (.iload_n 3) 1 := by decide +kernel
theorem qd30_24 : sq_in 30 24 (.ireturn) 1 := by decide +kernel
-- 31: SewingPiles$Room.wakeFirstSleeper()V
theorem qd31_0 : sq_in 31 0 (.iconst 0) 1 := by decide +kernel
theorem qd31_1 : sq_in 31 1 (.istore_n 1) 1 := by decide +kernel
theorem qd31_2 : sq_in 31 2 (.iload_n 1) 1 := by decide +kernel
theorem qd31_3 : sq_in 31 3 (.aload_n 0) 1 := by decide +kernel
theorem qd31_4 : sq_in 31 4 (.getfield 9) 3 := by decide +kernel
theorem qd31_7 : sq_in 31 7 (.if_icmp .ge 39) 3 := by decide +kernel
theorem qd31_10 : sq_in 31 10 (.iload_n 1) 1 := by decide +kernel
theorem qd31_11 : sq_in 31 11 (.bipush 7) 2 := by decide +kernel
theorem qd31_13 : sq_in 31 13 (.if_icmp .ge 33) 3 := by decide +kernel
theorem qd31_16 : sq_in 31 16 (.aload_n 0) 1 := by decide +kernel
theorem qd31_17 : sq_in 31 17 (.getfield 28) 3 := by decide +kernel
theorem qd31_20 : sq_in 31 20 (.iload_n 1) 1 := by decide +kernel
theorem qd31_21 : sq_in 31 21 (.baload) 1 := by decide +kernel
theorem qd31_22 : sq_in 31 22 (.ifCond .eq 18) 3 := by decide +kernel
theorem qd31_25 : sq_in 31 25 (.aload_n 0) 1 := by decide +kernel
theorem qd31_26 : sq_in 31 26 (.getfield 28) 3 := by decide +kernel
theorem qd31_29 : sq_in 31 29 (.iload_n 1) 1 := by decide +kernel
theorem qd31_30 : sq_in 31 30 (.iconst 0) 1 := by decide +kernel
theorem qd31_31 : sq_in 31 31 (.bastore) 1 := by decide +kernel
theorem qd31_32 : sq_in 31 32 (.aload_n 0) 1 := by decide +kernel
theorem qd31_33 : sq_in 31 33 (.getfield 25) 3 := by decide +kernel
theorem qd31_36 : sq_in 31 36 (.iload_n 1) 1 := by decide +kernel
theorem qd31_37 : sq_in 31 37 (.iconst 0) 1 := by decide +kernel
theorem qd31_38 : sq_in 31 38 (.iastore) 1 := by decide +kernel
theorem qd31_39 : sq_in 31 39 (.return_) 1 := by decide +kernel
theorem qd31_40 : sq_in 31 40 (.iinc 1 1) 3 := by decide +kernel
theorem qd31_43 : sq_in 31 43 (.goto (-41)) 3 := by decide +kernel
theorem qd31_46 : sq_in 31 46 (.return_) 1 := by decide +kernel
-- 32: SewingPiles$Room.passMinutes(I)V
theorem qd32_0 : sq_in 32 0 (.iconst 0) 1 := by decide +kernel
theorem qd32_1 : sq_in 32 1 (.istore_n 2) 1 := by decide +kernel
theorem qd32_2 : sq_in 32 2 (.iload_n 2) 1 := by decide +kernel
theorem qd32_3 : sq_in 32 3 (.iload_n 1) 1 := by decide +kernel
theorem qd32_4 : sq_in 32 4 (.if_icmp .ge 14) 3 := by decide +kernel
theorem qd32_7 : sq_in 32 7 (.aload_n 0) 1 := by decide +kernel
theorem qd32_8 : sq_in 32 8 (.iconst 1) 1 := by decide +kernel
theorem qd32_9 : sq_in 32 9 (.invokevirtual 96) 3 := by decide +kernel
theorem qd32_12 : sq_in 32 12 (.iinc 2 1) 3 := by decide +kernel
theorem qd32_15 : sq_in 32 15 (.goto (-13)) 3 := by decide +kernel
theorem qd32_18 : sq_in 32 18 (.return_) 1 := by decide +kernel
-- 33: SewingPiles$Room.passMinute(Z)V
theorem qd33_0 : sq_in 33 0 (.iconst 0) 1 := by decide +kernel
theorem qd33_1 : sq_in 33 1 (.istore_n 2) 1 := by decide +kernel
theorem qd33_2 : sq_in 33 2 (.iload_n 2) 1 := by decide +kernel
theorem qd33_3 : sq_in 33 3 (.aload_n 0) 1 := by decide +kernel
theorem qd33_4 : sq_in 33 4 (.getfield 9) 3 := by decide +kernel
theorem qd33_7 : sq_in 33 7 (.if_icmp .ge 33) 3 := by decide +kernel
theorem qd33_10 : sq_in 33 10 (.iload_n 2) 1 := by decide +kernel
theorem qd33_11 : sq_in 33 11 (.bipush 7) 2 := by decide +kernel
theorem qd33_13 : sq_in 33 13 (.if_icmp .ge 27) 3 := by decide +kernel
theorem qd33_16 : sq_in 33 16 (.aload_n 0) 1 := by decide +kernel
theorem qd33_17 : sq_in 33 17 (.iload_n 2) 1 := by decide +kernel
theorem qd33_18 : sq_in 33 18 (.iload_n 1) 1 := by decide +kernel
theorem qd33_19 : sq_in 33 19 (.invokevirtual 100) 3 := by decide +kernel
theorem qd33_22 : sq_in 33 22 (.istore_n 3) 1 := by decide +kernel
theorem qd33_23 : sq_in 33 23 (.iload_n 3) 1 := by decide +kernel
theorem qd33_24 : sq_in 33 24 (.iconst (-1)) 1 := by decide +kernel
theorem qd33_25 : sq_in 33 25 (.if_icmp .eq 9) 3 := by decide +kernel
theorem qd33_28 : sq_in 33 28 (.aload_n 0) 1 := by decide +kernel
theorem qd33_29 : sq_in 33 29 (.iload_n 2) 1 := by decide +kernel
theorem qd33_30 : sq_in 33 30 (.iload_n 3) 1 := by decide +kernel
theorem qd33_31 : sq_in 33 31 (.invokevirtual 104) 3 := by decide +kernel
theorem qd33_34 : sq_in 33 34 (.iinc 2 1) 3 := by decide +kernel
theorem qd33_37 : sq_in 33 37 (.goto (-35)) 3 := by decide +kernel
theorem qd33_40 : sq_in 33 40 (.aload_n 0) 1 := by decide +kernel
theorem qd33_41 : sq_in 33 41 (.dup) 1 := by decide +kernel
theorem qd33_42 : sq_in 33 42 (.getfield 58) 3 := by decide +kernel
theorem qd33_45 : sq_in 33 45 (.iconst 1) 1 := by decide +kernel
theorem qd33_46 : sq_in 33 46 (.iadd) 1 := by decide +kernel
theorem qd33_47 : sq_in 33 47 (.putfield 58) 3 := by decide +kernel
theorem qd33_50 : sq_in 33 50 (.return_) 1 := by decide +kernel
-- 34: SewingPiles$Room.act(IZ)I
theorem qd34_0 : sq_in 34 0 (.aload_n 0) 1 := by decide +kernel
theorem qd34_1 : sq_in 34 1 (.iload_n 1) 1 := by decide +kernel
theorem qd34_2 : sq_in 34 2 (.invokevirtual 74) 3 := by decide +kernel
theorem qd34_5 : sq_in 34 5 (.ifCond .ne 5) 3 := by decide +kernel
theorem qd34_8 : sq_in 34 8 (.iconst (-1)) 1 := by decide +kernel
theorem qd34_9 : sq_in 34 9 (.ireturn) 1 := by decide +kernel
theorem qd34_10 : sq_in 34 10 (.aload_n 0) 1 := by decide +kernel
theorem qd34_11 : sq_in 34 11 (.getfield 28) 3 := by decide +kernel
theorem qd34_14 : sq_in 34 14 (.iload_n 1) 1 := by decide +kernel
theorem qd34_15 : sq_in 34 15 (.baload) 1 := by decide +kernel
theorem qd34_16 : sq_in 34 16 (.ifCond .eq 15) 3 := by decide +kernel
theorem qd34_19 : sq_in 34 19 (.aload_n 0) 1 := by decide +kernel
theorem qd34_20 : sq_in 34 20 (.getfield 38) 3 := by decide +kernel
theorem qd34_23 : sq_in 34 23 (.iload_n 1) 1 := by decide +kernel
theorem qd34_24 : sq_in 34 24 (.dup2) 1 := by decide +kernel
theorem qd34_25 : sq_in 34 25 (.iaload) 1 := by decide +kernel
theorem qd34_26 : sq_in 34 26 (.iconst 1) 1 := by decide +kernel
theorem qd34_27 : sq_in 34 27 (.iadd) 1 := by decide +kernel
theorem qd34_28 : sq_in 34 28 (.iastore) 1 := by decide +kernel
theorem qd34_29 : sq_in 34 29 (.iconst (-1)) 1 := by decide +kernel
theorem qd34_30 : sq_in 34 30 (.ireturn) 1 := by decide +kernel
theorem qd34_31 : sq_in 34 31 (.aload_n 0) 1 := by decide +kernel
theorem qd34_32 : sq_in 34 32 (.getfield 22) 3 := by decide +kernel
theorem qd34_35 : sq_in 34 35 (.iload_n 1) 1 := by decide +kernel
theorem qd34_36 : sq_in 34 36 (.iaload) 1 := by decide +kernel
theorem qd34_37 : sq_in 34 37 (.iconst (-1)) 1 := by decide +kernel
theorem qd34_38 : sq_in 34 38 (.if_icmp .eq 10) 3 := by decide +kernel
theorem qd34_41 : sq_in 34 41 (.aload_n 0) 1 := by decide +kernel
theorem qd34_42 : sq_in 34 42 (.iload_n 1) 1 := by decide +kernel
theorem qd34_43 : sq_in 34 43 (.invokevirtual 107) 3 := by decide +kernel
theorem qd34_46 : sq_in 34 46 (.iconst (-1)) 1 := by decide +kernel
theorem qd34_47 : sq_in 34 47 (.ireturn) 1 := by decide +kernel
theorem qd34_48 : sq_in 34 48 (.aload_n 0) 1 := by decide +kernel
theorem qd34_49 : sq_in 34 49 (.getfield 47) 3 := by decide +kernel
theorem qd34_52 : sq_in 34 52 (.iload_n 1) 1 := by decide +kernel
theorem qd34_53 : sq_in 34 53 (.invokevirtual 78) 3 := by decide +kernel
theorem qd34_56 : sq_in 34 56 (.ifCond .le 12) 3 := by decide +kernel
theorem qd34_59 : sq_in 34 59 (.aload_n 0) 1 := by decide +kernel
theorem qd34_60 : sq_in 34 60 (.getfield 47) 3 := by decide +kernel
theorem qd34_63 : sq_in 34 63 (.iload_n 1) 1 := by decide +kernel
theorem qd34_64 : sq_in 34 64 (.invokevirtual 111) 3 := by decide +kernel
theorem qd34_67 : sq_in 34 67 (.ireturn) 1 := by decide +kernel
theorem qd34_68 : sq_in 34 68 (.iload_n 2) 1 := by decide +kernel
theorem qd34_69 : sq_in 34 69 (.ifCond .eq 11) 3 := by decide +kernel
theorem qd34_72 : sq_in 34 72 (.aload_n 0) 1 := by decide +kernel
theorem qd34_73 : sq_in 34 73 (.iload_n 1) 1 := by decide +kernel
theorem qd34_74 : sq_in 34 74 (.invokevirtual 114) 3 := by decide +kernel
theorem qd34_77 : sq_in 34 77 (.goto 4) 3 := by decide +kernel
theorem qd34_80 : sq_in 34 80 (.iconst (-1)) 1 := by decide +kernel
theorem qd34_81 : sq_in 34 81 (.istore_n 3) 1 := by decide +kernel
theorem qd34_82 : sq_in 34 82 (.iload_n 3) 1 := by decide +kernel
theorem qd34_83 : sq_in 34 83 (.iconst (-1)) 1 := by decide +kernel
theorem qd34_84 : sq_in 34 84 (.if_icmp .eq 22) 3 := by decide +kernel
theorem qd34_87 : sq_in 34 87 (.aload_n 0) 1 := by decide +kernel
theorem qd34_88 : sq_in 34 88 (.getfield 35) 3 := by decide +kernel
theorem qd34_91 : sq_in 34 91 (.iload_n 1) 1 := by decide +kernel
theorem qd34_92 : sq_in 34 92 (.dup2) 1 := by decide +kernel
theorem qd34_93 : sq_in 34 93 (.iaload) 1 := by decide +kernel
theorem qd34_94 : sq_in 34 94 (.iconst 1) 1 := by decide +kernel
theorem qd34_95 : sq_in 34 95 (.iadd) 1 := by decide +kernel
theorem qd34_96 : sq_in 34 96 (.iastore) 1 := by decide +kernel
theorem qd34_97 : sq_in 34 97 (.aload_n 0) 1 := by decide +kernel
theorem qd34_98 : sq_in 34 98 (.getfield 47) 3 := by decide +kernel
theorem qd34_101 : sq_in 34 101 (.iload_n 3) 1 := by decide +kernel
theorem qd34_102 : sq_in 34 102 (.invokevirtual 117) 3 := by decide +kernel
theorem qd34_105 : sq_in 34 105 (.ireturn) 1 := by decide +kernel
theorem qd34_106 : sq_in 34 106 (.aload_n 0) 1 := by decide +kernel
theorem qd34_107 : sq_in 34 107 (.iload_n 1) 1 := by decide +kernel
theorem qd34_108 : sq_in 34 108 (.invokevirtual 120) 3 := by decide +kernel
theorem qd34_111 : sq_in 34 111 (.iconst (-1)) 1 := by decide +kernel
theorem qd34_112 : sq_in 34 112 (.ireturn) 1 := by decide +kernel
-- 35: SewingPiles$Room.sew(I)V
theorem qd35_0 : sq_in 35 0 (.aload_n 0) 1 := by decide +kernel
theorem qd35_1 : sq_in 35 1 (.iload_n 1) 1 := by decide +kernel
theorem qd35_2 : sq_in 35 2 (.invokevirtual 74) 3 := by decide +kernel
theorem qd35_5 : sq_in 35 5 (.ifCond .ne 4) 3 := by decide +kernel
theorem qd35_8 : sq_in 35 8 (.return_) 1 := by decide +kernel
theorem qd35_9 : sq_in 35 9 (.aload_n 0) 1 := by decide +kernel
theorem qd35_10 : sq_in 35 10 (.getfield 22) 3 := by decide +kernel
theorem qd35_13 : sq_in 35 13 (.iload_n 1) 1 := by decide +kernel
theorem qd35_14 : sq_in 35 14 (.iaload) 1 := by decide +kernel
theorem qd35_15 : sq_in 35 15 (.istore_n 2) 1 := by decide +kernel
theorem qd35_16 : sq_in 35 16 (.aload_n 0) 1 := by decide +kernel
theorem qd35_17 : sq_in 35 17 (.getfield 54) 3 := by decide +kernel
theorem qd35_20 : sq_in 35 20 (.iload_n 2) 1 := by decide +kernel
theorem qd35_21 : sq_in 35 21 (.invokevirtual 123) 3 := by decide +kernel
theorem qd35_24 : sq_in 35 24 (.aload_n 0) 1 := by decide +kernel
theorem qd35_25 : sq_in 35 25 (.getfield 19) 3 := by decide +kernel
theorem qd35_28 : sq_in 35 28 (.iload_n 1) 1 := by decide +kernel
theorem qd35_29 : sq_in 35 29 (.iaload) 1 := by decide +kernel
theorem qd35_30 : sq_in 35 30 (.isub) 1 := by decide +kernel
theorem qd35_31 : sq_in 35 31 (.istore_n 3) 1 := by decide +kernel
theorem qd35_32 : sq_in 35 32 (.aload_n 0) 1 := by decide +kernel
theorem qd35_33 : sq_in 35 33 (.getfield 54) 3 := by decide +kernel
theorem qd35_36 : sq_in 35 36 (.iload_n 2) 1 := by decide +kernel
theorem qd35_37 : sq_in 35 37 (.iload_n 3) 1 := by decide +kernel
theorem qd35_38 : sq_in 35 38 (.ifCond .le 7) 3 := by decide +kernel
theorem qd35_41 : sq_in 35 41 (.iload_n 3) 1 := by decide +kernel
theorem qd35_42 : sq_in 35 42 (.goto 4) 3 := by decide +kernel
theorem qd35_45 : sq_in 35 45 (.iconst 0) 1 := by decide +kernel
theorem qd35_46 : sq_in 35 46 (.invokevirtual 126) 3 := by decide +kernel
theorem qd35_49 : sq_in 35 49 (.iload_n 3) 1 := by decide +kernel
theorem qd35_50 : sq_in 35 50 (.ifCond .gt 30) 3 := by decide +kernel
theorem qd35_53 : sq_in 35 53 (.aload_n 0) 1 := by decide +kernel
theorem qd35_54 : sq_in 35 54 (.getfield 54) 3 := by decide +kernel
theorem qd35_57 : sq_in 35 57 (.iload_n 2) 1 := by decide +kernel
theorem qd35_58 : sq_in 35 58 (.iconst 2) 1 := by decide +kernel
theorem qd35_59 : sq_in 35 59 (.iload_n 1) 1 := by decide +kernel
theorem qd35_60 : sq_in 35 60 (.invokevirtual 129) 3 := by decide +kernel
theorem qd35_63 : sq_in 35 63 (.aload_n 0) 1 := by decide +kernel
theorem qd35_64 : sq_in 35 64 (.getfield 22) 3 := by decide +kernel
theorem qd35_67 : sq_in 35 67 (.iload_n 1) 1 := by decide +kernel
theorem qd35_68 : sq_in 35 68 (.iconst (-1)) 1 := by decide +kernel
theorem qd35_69 : sq_in 35 69 (.iastore) 1 := by decide +kernel
theorem qd35_70 : sq_in 35 70 (.aload_n 0) 1 := by decide +kernel
theorem qd35_71 : sq_in 35 71 (.getfield 32) 3 := by decide +kernel
theorem qd35_74 : sq_in 35 74 (.iload_n 1) 1 := by decide +kernel
theorem qd35_75 : sq_in 35 75 (.dup2) 1 := by decide +kernel
theorem qd35_76 : sq_in 35 76 (.iaload) 1 := by decide +kernel
theorem qd35_77 : sq_in 35 77 (.iconst 1) 1 := by decide +kernel
theorem qd35_78 : sq_in 35 78 (.iadd) 1 := by decide +kernel
theorem qd35_79 : sq_in 35 79 (.iastore) 1 := by decide +kernel
theorem qd35_80 : sq_in 35 80 (.return_) 1 := by decide +kernel
-- 36: SewingPiles$Room.miss(I)V
theorem qd36_0 : sq_in 36 0 (.aload_n 0) 1 := by decide +kernel
theorem qd36_1 : sq_in 36 1 (.iload_n 1) 1 := by decide +kernel
theorem qd36_2 : sq_in 36 2 (.invokevirtual 74) 3 := by decide +kernel
theorem qd36_5 : sq_in 36 5 (.ifCond .ne 4) 3 := by decide +kernel
theorem qd36_8 : sq_in 36 8 (.return_) 1 := by decide +kernel
theorem qd36_9 : sq_in 36 9 (.aload_n 0) 1 := by decide +kernel
theorem qd36_10 : sq_in 36 10 (.getfield 41) 3 := by decide +kernel
theorem qd36_13 : sq_in 36 13 (.iload_n 1) 1 := by decide +kernel
theorem qd36_14 : sq_in 36 14 (.dup2) 1 := by decide +kernel
theorem qd36_15 : sq_in 36 15 (.iaload) 1 := by decide +kernel
theorem qd36_16 : sq_in 36 16 (.iconst 1) 1 := by decide +kernel
theorem qd36_17 : sq_in 36 17 (.iadd) 1 := by decide +kernel
theorem qd36_18 : sq_in 36 18 (.iastore) 1 := by decide +kernel
theorem qd36_19 : sq_in 36 19 (.aload_n 0) 1 := by decide +kernel
theorem qd36_20 : sq_in 36 20 (.getfield 25) 3 := by decide +kernel
theorem qd36_23 : sq_in 36 23 (.iload_n 1) 1 := by decide +kernel
theorem qd36_24 : sq_in 36 24 (.dup2) 1 := by decide +kernel
theorem qd36_25 : sq_in 36 25 (.iaload) 1 := by decide +kernel
theorem qd36_26 : sq_in 36 26 (.iconst 1) 1 := by decide +kernel
theorem qd36_27 : sq_in 36 27 (.iadd) 1 := by decide +kernel
theorem qd36_28 : sq_in 36 28 (.iastore) 1 := by decide +kernel
theorem qd36_29 : sq_in 36 29 (.aload_n 0) 1 := by decide +kernel
theorem qd36_30 : sq_in 36 30 (.getfield 25) 3 := by decide +kernel
theorem qd36_33 : sq_in 36 33 (.iload_n 1) 1 := by decide +kernel
theorem qd36_34 : sq_in 36 34 (.iaload) 1 := by decide +kernel
theorem qd36_35 : sq_in 36 35 (.aload_n 0) 1 := by decide +kernel
theorem qd36_36 : sq_in 36 36 (.getfield 15) 3 := by decide +kernel
theorem qd36_39 : sq_in 36 39 (.iconst 2) 1 := by decide +kernel
theorem qd36_40 : sq_in 36 40 (.iaload) 1 := by decide +kernel
theorem qd36_41 : sq_in 36 41 (.if_icmp .lt 17) 3 := by decide +kernel
theorem qd36_44 : sq_in 36 44 (.aload_n 0) 1 := by decide +kernel
theorem qd36_45 : sq_in 36 45 (.getfield 28) 3 := by decide +kernel
theorem qd36_48 : sq_in 36 48 (.iload_n 1) 1 := by decide +kernel
theorem qd36_49 : sq_in 36 49 (.iconst 1) 1 := by decide +kernel
theorem qd36_50 : sq_in 36 50 (.bastore) 1 := by decide +kernel
theorem qd36_51 : sq_in 36 51 (.aload_n 0) 1 := by decide +kernel
theorem qd36_52 : sq_in 36 52 (.getfield 25) 3 := by decide +kernel
theorem qd36_55 : sq_in 36 55 (.iload_n 1) 1 := by decide +kernel
theorem qd36_56 : sq_in 36 56 (.iconst 0) 1 := by decide +kernel
theorem qd36_57 : sq_in 36 57 (.iastore) 1 := by decide +kernel
theorem qd36_58 : sq_in 36 58 (.return_) 1 := by decide +kernel
-- 37: SewingPiles$Room.takeIntoHand(II)V
theorem qd37_0 : sq_in 37 0 (.aload_n 0) 1 := by decide +kernel
theorem qd37_1 : sq_in 37 1 (.iload_n 1) 1 := by decide +kernel
theorem qd37_2 : sq_in 37 2 (.invokevirtual 74) 3 := by decide +kernel
theorem qd37_5 : sq_in 37 5 (.ifCond .ne 4) 3 := by decide +kernel
theorem qd37_8 : sq_in 37 8 (.return_) 1 := by decide +kernel
theorem qd37_9 : sq_in 37 9 (.aload_n 0) 1 := by decide +kernel
theorem qd37_10 : sq_in 37 10 (.getfield 22) 3 := by decide +kernel
theorem qd37_13 : sq_in 37 13 (.iload_n 1) 1 := by decide +kernel
theorem qd37_14 : sq_in 37 14 (.iload_n 2) 1 := by decide +kernel
theorem qd37_15 : sq_in 37 15 (.iastore) 1 := by decide +kernel
theorem qd37_16 : sq_in 37 16 (.aload_n 0) 1 := by decide +kernel
theorem qd37_17 : sq_in 37 17 (.getfield 25) 3 := by decide +kernel
theorem qd37_20 : sq_in 37 20 (.iload_n 1) 1 := by decide +kernel
theorem qd37_21 : sq_in 37 21 (.iconst 0) 1 := by decide +kernel
theorem qd37_22 : sq_in 37 22 (.iastore) 1 := by decide +kernel
theorem qd37_23 : sq_in 37 23 (.aload_n 0) 1 := by decide +kernel
theorem qd37_24 : sq_in 37 24 (.dup) 1 := by decide +kernel
theorem qd37_25 : sq_in 37 25 (.getfield 61) 3 := by decide +kernel
theorem qd37_28 : sq_in 37 28 (.iconst 1) 1 := by decide +kernel
theorem qd37_29 : sq_in 37 29 (.iadd) 1 := by decide +kernel
theorem qd37_30 : sq_in 37 30 (.putfield 61) 3 := by decide +kernel
theorem qd37_33 : sq_in 37 33 (.aload_n 0) 1 := by decide +kernel
theorem qd37_34 : sq_in 37 34 (.getfield 54) 3 := by decide +kernel
theorem qd37_37 : sq_in 37 37 (.iload_n 2) 1 := by decide +kernel
theorem qd37_38 : sq_in 37 38 (.iconst 1) 1 := by decide +kernel
theorem qd37_39 : sq_in 37 39 (.iload_n 1) 1 := by decide +kernel
theorem qd37_40 : sq_in 37 40 (.invokevirtual 129) 3 := by decide +kernel
theorem qd37_43 : sq_in 37 43 (.aload_n 0) 1 := by decide +kernel
theorem qd37_44 : sq_in 37 44 (.getfield 54) 3 := by decide +kernel
theorem qd37_47 : sq_in 37 47 (.iload_n 2) 1 := by decide +kernel
theorem qd37_48 : sq_in 37 48 (.invokevirtual 123) 3 := by decide +kernel
theorem qd37_51 : sq_in 37 51 (.istore_n 3) 1 := by decide +kernel
theorem qd37_52 : sq_in 37 52 (.iload_n 3) 1 := by decide +kernel
theorem qd37_53 : sq_in 37 53 (.aload_n 0) 1 := by decide +kernel
theorem qd37_54 : sq_in 37 54 (.getfield 15) 3 := by decide +kernel
theorem qd37_57 : sq_in 37 57 (.iconst 0) 1 := by decide +kernel
theorem qd37_58 : sq_in 37 58 (.iaload) 1 := by decide +kernel
theorem qd37_59 : sq_in 37 59 (.if_icmp .le 50) 3 := by decide +kernel
theorem qd37_62 : sq_in 37 62 (.aload_n 0) 1 := by decide +kernel
theorem qd37_63 : sq_in 37 63 (.getfield 54) 3 := by decide +kernel
theorem qd37_66 : sq_in 37 66 (.getfield 82) 3 := by decide +kernel
theorem qd37_69 : sq_in 37 69 (.bipush 120) 2 := by decide +kernel
theorem qd37_71 : sq_in 37 71 (.if_icmp .ge 38) 3 := by decide +kernel
theorem qd37_74 : sq_in 37 74 (.iload_n 3) 1 := by decide +kernel
theorem qd37_75 : sq_in 37 75 (.iconst 2) 1 := by decide +kernel
theorem qd37_76 : sq_in 37 76 (.idiv) 1 := by decide +kernel
theorem qd37_77 : sq_in 37 77 (.istore 4) 2 := by decide +kernel
theorem qd37_79 : sq_in 37 79 (.aload_n 0) 1 := by decide +kernel
theorem qd37_80 : sq_in 37 80 (.getfield 54) 3 := by decide +kernel
theorem qd37_83 : sq_in 37 83 (.iload_n 2) 1 := by decide +kernel
theorem qd37_84 : sq_in 37 84 (.iload_n 3) 1 := by decide +kernel
theorem qd37_85 : sq_in 37 85 (.iload 4) 2 := by decide +kernel
theorem qd37_87 : sq_in 37 87 (.isub) 1 := by decide +kernel
theorem qd37_88 : sq_in 37 88 (.invokevirtual 126) 3 := by decide +kernel
theorem qd37_91 : sq_in 37 91 (.aload_n 0) 1 := by decide +kernel
theorem qd37_92 : sq_in 37 92 (.dup) 1 := by decide +kernel
theorem qd37_93 : sq_in 37 93 (.getfield 64) 3 := by decide +kernel
theorem qd37_96 : sq_in 37 96 (.iconst 1) 1 := by decide +kernel
theorem qd37_97 : sq_in 37 97 (.iadd) 1 := by decide +kernel
theorem qd37_98 : sq_in 37 98 (.putfield 64) 3 := by decide +kernel
theorem qd37_101 : sq_in 37 101 (.aload_n 0) 1 := by decide +kernel
theorem qd37_102 : sq_in 37 102 (.iload_n 1) 1 := by decide +kernel
theorem qd37_103 : sq_in 37 103 (.iload 4) 2 := by decide +kernel
theorem qd37_105 : sq_in 37 105 (.invokevirtual 133) 3 := by decide +kernel
theorem qd37_108 : sq_in 37 108 (.pop) 1 := by decide +kernel
theorem qd37_109 : sq_in 37 109 (.return_) 1 := by decide +kernel
-- 38: SewingPiles$Room.chosenPile(I)I
theorem qd38_0 : sq_in 38 0 (.iconst (-1)) 1 := by decide +kernel
theorem qd38_1 : sq_in 38 1 (.istore_n 2) 1 := by decide +kernel
theorem qd38_2 : sq_in 38 2 (.iconst 0) 1 := by decide +kernel
theorem qd38_3 : sq_in 38 3 (.istore_n 3) 1 := by decide +kernel
theorem qd38_4 : sq_in 38 4 (.iconst 0) 1 := by decide +kernel
theorem qd38_5 : sq_in 38 5 (.istore 4) 2 := by decide +kernel
theorem qd38_7 : sq_in 38 7 (.iload 4) 2 := by decide +kernel
theorem qd38_9 : sq_in 38 9 (.aload_n 0) 1 := by decide +kernel
theorem qd38_10 : sq_in 38 10 (.getfield 9) 3 := by decide +kernel
theorem qd38_13 : sq_in 38 13 (.if_icmp .ge 57) 3 := by decide +kernel
theorem qd38_16 : sq_in 38 16 (.iload 4) 2 := by decide +kernel
theorem qd38_18 : sq_in 38 18 (.bipush 7) 2 := by decide +kernel
theorem qd38_20 : sq_in 38 20 (.if_icmp .ge 50) 3 := by decide +kernel
theorem qd38_23 : sq_in 38 23 (.iload 4) 2 := by decide +kernel
theorem qd38_25 : sq_in 38 25 (.iload_n 1) 1 := by decide +kernel
theorem qd38_26 : sq_in 38 26 (.if_icmp .eq 38) 3 := by decide +kernel
theorem qd38_29 : sq_in 38 29 (.aload_n 0) 1 := by decide +kernel
theorem qd38_30 : sq_in 38 30 (.iload 4) 2 := by decide +kernel
theorem qd38_32 : sq_in 38 32 (.invokevirtual 136) 3 := by decide +kernel
theorem qd38_35 : sq_in 38 35 (.ifCond .eq 29) 3 := by decide +kernel
theorem qd38_38 : sq_in 38 38 (.aload_n 0) 1 := by decide +kernel
theorem qd38_39 : sq_in 38 39 (.iload_n 1) 1 := by decide +kernel
theorem qd38_40 : sq_in 38 40 (.iload 4) 2 := by decide +kernel
theorem qd38_42 : sq_in 38 42 (.invokevirtual 139) 3 := by decide +kernel
theorem qd38_45 : sq_in 38 45 (.istore 5) 2 := by decide +kernel
theorem qd38_47 : sq_in 38 47 (.iload_n 2) 1 := by decide +kernel
theorem qd38_48 : sq_in 38 48 (.iconst (-1)) 1 := by decide +kernel
theorem qd38_49 : sq_in 38 49 (.if_icmp .eq 9) 3 := by decide +kernel
theorem qd38_52 : sq_in 38 52 (.iload 5) 2 := by decide +kernel
theorem qd38_54 : sq_in 38 54 (.iload_n 3) 1 := by decide +kernel
theorem qd38_55 : sq_in 38 55 (.if_icmp .le 9) 3 := by decide +kernel
theorem qd38_58 : sq_in 38 58 (.iload 4) 2 := by decide +kernel
theorem qd38_60 : sq_in 38 60 (.istore_n 2) 1 := by decide +kernel
theorem qd38_61 : sq_in 38 61 (.iload 5) 2 := by decide +kernel
theorem qd38_63 : sq_in 38 63 (.istore_n 3) 1 := by decide +kernel
theorem qd38_64 : sq_in 38 64 (.iinc 4 1) 3 := by decide +kernel
theorem qd38_67 : sq_in 38 67 (.goto (-60)) 3 := by decide +kernel
theorem qd38_70 : sq_in 38 70 (.iload_n 2) 1 := by decide +kernel
theorem qd38_71 : sq_in 38 71 (.ireturn) 1 := by decide +kernel
-- 39: SewingPiles$Room.canBeTakenFrom(I)Z
theorem qd39_0 : sq_in 39 0 (.aload_n 0) 1 := by decide +kernel
theorem qd39_1 : sq_in 39 1 (.iload_n 1) 1 := by decide +kernel
theorem qd39_2 : sq_in 39 2 (.invokevirtual 74) 3 := by decide +kernel
theorem qd39_5 : sq_in 39 5 (.ifCond .ne 5) 3 := by decide +kernel
theorem qd39_8 : sq_in 39 8 (.iconst 0) 1 := by decide +kernel
theorem qd39_9 : sq_in 39 9 (.ireturn) 1 := by decide +kernel
theorem qd39_10 : sq_in 39 10 (.aload_n 0) 1 := by decide +kernel
theorem qd39_11 : sq_in 39 11 (.getfield 47) 3 := by decide +kernel
theorem qd39_14 : sq_in 39 14 (.iload_n 1) 1 := by decide +kernel
theorem qd39_15 : sq_in 39 15 (.invokevirtual 78) 3 := by decide +kernel
theorem qd39_18 : sq_in 39 18 (.istore_n 2) 1 := by decide +kernel
theorem qd39_19 : sq_in 39 19 (.iload_n 2) 1 := by decide +kernel
theorem qd39_20 : sq_in 39 20 (.iconst 2) 1 := by decide +kernel
theorem qd39_21 : sq_in 39 21 (.if_icmp .ge 27) 3 := by decide +kernel
theorem qd39_24 : sq_in 39 24 (.iload_n 2) 1 := by decide +kernel
theorem qd39_25 : sq_in 39 25 (.iconst 1) 1 := by decide +kernel
theorem qd39_26 : sq_in 39 26 (.if_icmp .ne 26) 3 := by decide +kernel
theorem qd39_29 : sq_in 39 29 (.aload_n 0) 1 := by decide +kernel
theorem qd39_30 : sq_in 39 30 (.getfield 28) 3 := by decide +kernel
theorem qd39_33 : sq_in 39 33 (.iload_n 1) 1 := by decide +kernel
theorem qd39_34 : sq_in 39 34 (.baload) 1 := by decide +kernel
theorem qd39_35 : sq_in 39 35 (.ifCond .ne 13) 3 := by decide +kernel
theorem qd39_38 : sq_in 39 38 (.aload_n 0) 1 := by decide +kernel
theorem qd39_39 : sq_in 39 39 (.getfield 22) 3 := by decide +kernel
theorem qd39_42 : sq_in 39 42 (.iload_n 1) 1 := by decide +kernel
theorem qd39_43 : sq_in 39 43 (.iaload) 1 := by decide +kernel
theorem qd39_44 : sq_in 39 44 (.iconst (-1)) 1 := by decide +kernel
theorem qd39_45 : sq_in 39 45 (.if_icmp .eq 7) 3 := by decide +kernel
theorem qd39_48 : sq_in 39 48 (.iconst 1) 1 := by decide +kernel
theorem qd39_49 : sq_in 39 49 (.goto 4) 3 := by decide +kernel
theorem qd39_52 : sq_in 39 52 (.iconst 0) 1 := by decide +kernel
theorem qd39_53 : sq_in 39 53 (.ireturn) 1 := by decide +kernel
-- 40: SewingPiles$Room.merit(II)I
theorem qd40_0 : sq_in 40 0 (.aload_n 0) 1 := by decide +kernel
theorem qd40_1 : sq_in 40 1 (.getfield 15) 3 := by decide +kernel
theorem qd40_4 : sq_in 40 4 (.iconst 1) 1 := by decide +kernel
theorem qd40_5 : sq_in 40 5 (.iaload) 1 := by decide +kernel
theorem qd40_6 : sq_in 40 6 (.lookupswitch 55 #[(0, 26), (1, 35)]) 26 := by decide +kernel
theorem qd40_32 : sq_in 40 32 (.aload_n 0) 1 := by decide +kernel
theorem qd40_33 : sq_in 40 33 (.getfield 47) 3 := by decide +kernel
theorem qd40_36 : sq_in 40 36 (.iload_n 2) 1 := by decide +kernel
theorem qd40_37 : sq_in 40 37 (.invokevirtual 78) 3 := by decide +kernel
theorem qd40_40 : sq_in 40 40 (.ireturn) 1 := by decide +kernel
theorem qd40_41 : sq_in 40 41 (.iload_n 2) 1 := by decide +kernel
theorem qd40_42 : sq_in 40 42 (.iload_n 1) 1 := by decide +kernel
theorem qd40_43 : sq_in 40 43 (.if_icmp .le 14) 3 := by decide +kernel
theorem qd40_46 : sq_in 40 46 (.aload_n 0) 1 := by decide +kernel
theorem qd40_47 : sq_in 40 47 (.getfield 9) 3 := by decide +kernel
theorem qd40_50 : sq_in 40 50 (.iload_n 2) 1 := by decide +kernel
theorem qd40_51 : sq_in 40 51 (.iload_n 1) 1 := by decide +kernel
theorem qd40_52 : sq_in 40 52 (.isub) 1 := by decide +kernel
theorem qd40_53 : sq_in 40 53 (.isub) 1 := by decide +kernel
theorem qd40_54 : sq_in 40 54 (.goto 6) 3 := by decide +kernel
theorem qd40_57 : sq_in 40 57 (.iload_n 1) 1 := by decide +kernel
theorem qd40_58 : sq_in 40 58 (.iload_n 2) 1 := by decide +kernel
theorem qd40_59 : sq_in 40 59 (.isub) 1 := by decide +kernel
theorem qd40_60 : sq_in 40 60 (.ireturn) 1 := by decide +kernel
theorem qd40_61 : sq_in 40 61 (.aload_n 0) 1 := by decide +kernel
theorem qd40_62 : sq_in 40 62 (.getfield 54) 3 := by decide +kernel
theorem qd40_65 : sq_in 40 65 (.aload_n 0) 1 := by decide +kernel
theorem qd40_66 : sq_in 40 66 (.getfield 47) 3 := by decide +kernel
theorem qd40_69 : sq_in 40 69 (.iload_n 2) 1 := by decide +kernel
theorem qd40_70 : sq_in 40 70 (.iconst 0) 1 := by decide +kernel
theorem qd40_71 : sq_in 40 71 (.invokevirtual 142) 3 := by decide +kernel
theorem qd40_74 : sq_in 40 74 (.invokevirtual 123) 3 := by decide +kernel
theorem qd40_77 : sq_in 40 77 (.ireturn) 1 := by decide +kernel
-- 41: SewingPiles$Room.minutesUntilDone(Z)I
theorem qd41_0 : sq_in 41 0 (.iconst 0) 1 := by decide +kernel
theorem qd41_1 : sq_in 41 1 (.istore_n 2) 1 := by decide +kernel
theorem qd41_2 : sq_in 41 2 (.iload_n 2) 1 := by decide +kernel
theorem qd41_3 : sq_in 41 3 (.sipush 2000) 3 := by decide +kernel
theorem qd41_6 : sq_in 41 6 (.if_icmp .gt 43) 3 := by decide +kernel
theorem qd41_9 : sq_in 41 9 (.aload_n 0) 1 := by decide +kernel
theorem qd41_10 : sq_in 41 10 (.invokevirtual 145) 3 := by decide +kernel
theorem qd41_13 : sq_in 41 13 (.aload_n 0) 1 := by decide +kernel
theorem qd41_14 : sq_in 41 14 (.getfield 54) 3 := by decide +kernel
theorem qd41_17 : sq_in 41 17 (.getfield 82) 3 := by decide +kernel
theorem qd41_20 : sq_in 41 20 (.if_icmp .ne 5) 3 := by decide +kernel
theorem qd41_23 : sq_in 41 23 (.iload_n 2) 1 := by decide +kernel
theorem qd41_24 : sq_in 41 24 (.ireturn) 1 := by decide +kernel
theorem qd41_25 : sq_in 41 25 (.aload_n 0) 1 := by decide +kernel
theorem qd41_26 : sq_in 41 26 (.invokevirtual 149) 3 := by decide +kernel
theorem qd41_29 : sq_in 41 29 (.aload_n 0) 1 := by decide +kernel
theorem qd41_30 : sq_in 41 30 (.getfield 9) 3 := by decide +kernel
theorem qd41_33 : sq_in 41 33 (.if_icmp .ne 5) 3 := by decide +kernel
theorem qd41_36 : sq_in 41 36 (.iconst (-1)) 1 := by decide +kernel
theorem qd41_37 : sq_in 41 37 (.ireturn) 1 := by decide +kernel
theorem qd41_38 : sq_in 41 38 (.aload_n 0) 1 := by decide +kernel
theorem qd41_39 : sq_in 41 39 (.iload_n 1) 1 := by decide +kernel
theorem qd41_40 : sq_in 41 40 (.invokevirtual 96) 3 := by decide +kernel
theorem qd41_43 : sq_in 41 43 (.iinc 2 1) 3 := by decide +kernel
theorem qd41_46 : sq_in 41 46 (.goto (-44)) 3 := by decide +kernel
theorem qd41_49 : sq_in 41 49 (.iconst (-1)) 1 := by decide +kernel
theorem qd41_50 : sq_in 41 50 (.ireturn) 1 := by decide +kernel
-- 42: SewingPiles$Room.seamstressNumber(II)I
theorem qd42_0 : sq_in 42 0 (.aload_n 0) 1 := by decide +kernel
theorem qd42_1 : sq_in 42 1 (.iload_n 1) 1 := by decide +kernel
theorem qd42_2 : sq_in 42 2 (.invokevirtual 74) 3 := by decide +kernel
theorem qd42_5 : sq_in 42 5 (.ifCond .ne 5) 3 := by decide +kernel
theorem qd42_8 : sq_in 42 8 (.iconst (-1)) 1 := by decide +kernel
theorem qd42_9 : sq_in 42 9 (.ireturn) 1 := by decide +kernel
theorem qd42_10 : sq_in 42 10 (.iload_n 2) 1 := by decide +kernel
theorem qd42_11 : sq_in 42 11 (.tableswitch 122 0 8 #[49, 56, 65, 72, 79, 94, 101, 108, 115]) 49 := by decide +kernel
theorem qd42_60 : sq_in 42 60 (.aload_n 0) 1 := by decide +kernel
theorem qd42_61 : sq_in 42 61 (.getfield 19) 3 := by decide +kernel
theorem qd42_64 : sq_in 42 64 (.iload_n 1) 1 := by decide +kernel
theorem qd42_65 : sq_in 42 65 (.iaload) 1 := by decide +kernel
theorem qd42_66 : sq_in 42 66 (.ireturn) 1 := by decide +kernel
theorem qd42_67 : sq_in 42 67 (.aload_n 0) 1 := by decide +kernel
theorem qd42_68 : sq_in 42 68 (.getfield 47) 3 := by decide +kernel
theorem qd42_71 : sq_in 42 71 (.iload_n 1) 1 := by decide +kernel
theorem qd42_72 : sq_in 42 72 (.invokevirtual 78) 3 := by decide +kernel
theorem qd42_75 : sq_in 42 75 (.ireturn) 1 := by decide +kernel
theorem qd42_76 : sq_in 42 76 (.aload_n 0) 1 := by decide +kernel
theorem qd42_77 : sq_in 42 77 (.getfield 22) 3 := by decide +kernel
theorem qd42_80 : sq_in 42 80 (.iload_n 1) 1 := by decide +kernel
theorem qd42_81 : sq_in 42 81 (.iaload) 1 := by decide +kernel
theorem qd42_82 : sq_in 42 82 (.ireturn) 1 := by decide +kernel
theorem qd42_83 : sq_in 42 83 (.aload_n 0) 1 := by decide +kernel
theorem qd42_84 : sq_in 42 84 (.getfield 25) 3 := by decide +kernel
theorem qd42_87 : sq_in 42 87 (.iload_n 1) 1 := by decide +kernel
theorem qd42_88 : sq_in 42 88 (.iaload) 1 := by decide +kernel
theorem qd42_89 : sq_in 42 89 (.ireturn) 1 := by decide +kernel
theorem qd42_90 : sq_in 42 90 (.aload_n 0) 1 := by decide +kernel
theorem qd42_91 : sq_in 42 91 (.getfield 28) 3 := by decide +kernel
theorem qd42_94 : sq_in 42 94 (.iload_n 1) 1 := by decide +kernel
theorem qd42_95 : sq_in 42 95 (.baload) 1 := by decide +kernel
theorem qd42_96 : sq_in 42 96 (.ifCond .eq 7) 3 := by decide +kernel
theorem qd42_99 : sq_in 42 99 (.iconst 1) 1 := by decide +kernel
theorem qd42_100 : sq_in 42 100 (.goto 4) 3 := by decide +kernel
theorem qd42_103 : sq_in 42 103 (.iconst 0) 1 := by decide +kernel
theorem qd42_104 : sq_in 42 104 (.ireturn) 1 := by decide +kernel
theorem qd42_105 : sq_in 42 105 (.aload_n 0) 1 := by decide +kernel
theorem qd42_106 : sq_in 42 106 (.getfield 32) 3 := by decide +kernel
theorem qd42_109 : sq_in 42 109 (.iload_n 1) 1 := by decide +kernel
theorem qd42_110 : sq_in 42 110 (.iaload) 1 := by decide +kernel
theorem qd42_111 : sq_in 42 111 (.ireturn) 1 := by decide +kernel
theorem qd42_112 : sq_in 42 112 (.aload_n 0) 1 := by decide +kernel
theorem qd42_113 : sq_in 42 113 (.getfield 35) 3 := by decide +kernel
theorem qd42_116 : sq_in 42 116 (.iload_n 1) 1 := by decide +kernel
theorem qd42_117 : sq_in 42 117 (.iaload) 1 := by decide +kernel
theorem qd42_118 : sq_in 42 118 (.ireturn) 1 := by decide +kernel
theorem qd42_119 : sq_in 42 119 (.aload_n 0) 1 := by decide +kernel
theorem qd42_120 : sq_in 42 120 (.getfield 38) 3 := by decide +kernel
theorem qd42_123 : sq_in 42 123 (.iload_n 1) 1 := by decide +kernel
theorem qd42_124 : sq_in 42 124 (.iaload) 1 := by decide +kernel
theorem qd42_125 : sq_in 42 125 (.ireturn) 1 := by decide +kernel
theorem qd42_126 : sq_in 42 126 (.aload_n 0) 1 := by decide +kernel
theorem qd42_127 : sq_in 42 127 (.getfield 41) 3 := by decide +kernel
theorem qd42_130 : sq_in 42 130 (.iload_n 1) 1 := by decide +kernel
theorem qd42_131 : sq_in 42 131 (.iaload) 1 := by decide +kernel
theorem qd42_132 : sq_in 42 132 (.ireturn) 1 := by decide +kernel
theorem qd42_133 : sq_in 42 133 (.aload_n 0) 1 := by decide +kernel
theorem qd42_134 : sq_in 42 134 (.iload_n 1) 1 := by decide +kernel
theorem qd42_135 : sq_in 42 135 (.invokevirtual 152) 3 := by decide +kernel
theorem qd42_138 : sq_in 42 138 (.ireturn) 1 := by decide +kernel
-- 43: SewingPiles$Room.countedNumber(I)I
theorem qd43_0 : sq_in 43 0 (.iload_n 1) 1 := by decide +kernel
theorem qd43_1 : sq_in 43 1 (.tableswitch 123 0 9 #[55, 60, 65, 73, 78, 90, 95, 104, 113, 118]) 55 := by decide +kernel
theorem qd43_56 : sq_in 43 56 (.aload_n 0) 1 := by decide +kernel
theorem qd43_57 : sq_in 43 57 (.getfield 58) 3 := by decide +kernel
theorem qd43_60 : sq_in 43 60 (.ireturn) 1 := by decide +kernel
theorem qd43_61 : sq_in 43 61 (.aload_n 0) 1 := by decide +kernel
theorem qd43_62 : sq_in 43 62 (.getfield 9) 3 := by decide +kernel
theorem qd43_65 : sq_in 43 65 (.ireturn) 1 := by decide +kernel
theorem qd43_66 : sq_in 43 66 (.aload_n 0) 1 := by decide +kernel
theorem qd43_67 : sq_in 43 67 (.getfield 54) 3 := by decide +kernel
theorem qd43_70 : sq_in 43 70 (.getfield 82) 3 := by decide +kernel
theorem qd43_73 : sq_in 43 73 (.ireturn) 1 := by decide +kernel
theorem qd43_74 : sq_in 43 74 (.aload_n 0) 1 := by decide +kernel
theorem qd43_75 : sq_in 43 75 (.invokevirtual 145) 3 := by decide +kernel
theorem qd43_78 : sq_in 43 78 (.ireturn) 1 := by decide +kernel
theorem qd43_79 : sq_in 43 79 (.aload_n 0) 1 := by decide +kernel
theorem qd43_80 : sq_in 43 80 (.aload_n 0) 1 := by decide +kernel
theorem qd43_81 : sq_in 43 81 (.getfield 47) 3 := by decide +kernel
theorem qd43_84 : sq_in 43 84 (.getfield 155) 3 := by decide +kernel
theorem qd43_87 : sq_in 43 87 (.invokevirtual 158) 3 := by decide +kernel
theorem qd43_90 : sq_in 43 90 (.ireturn) 1 := by decide +kernel
theorem qd43_91 : sq_in 43 91 (.aload_n 0) 1 := by decide +kernel
theorem qd43_92 : sq_in 43 92 (.invokevirtual 162) 3 := by decide +kernel
theorem qd43_95 : sq_in 43 95 (.ireturn) 1 := by decide +kernel
theorem qd43_96 : sq_in 43 96 (.aload_n 0) 1 := by decide +kernel
theorem qd43_97 : sq_in 43 97 (.aload_n 0) 1 := by decide +kernel
theorem qd43_98 : sq_in 43 98 (.getfield 35) 3 := by decide +kernel
theorem qd43_101 : sq_in 43 101 (.invokevirtual 158) 3 := by decide +kernel
theorem qd43_104 : sq_in 43 104 (.ireturn) 1 := by decide +kernel
theorem qd43_105 : sq_in 43 105 (.aload_n 0) 1 := by decide +kernel
theorem qd43_106 : sq_in 43 106 (.aload_n 0) 1 := by decide +kernel
theorem qd43_107 : sq_in 43 107 (.getfield 41) 3 := by decide +kernel
theorem qd43_110 : sq_in 43 110 (.invokevirtual 158) 3 := by decide +kernel
theorem qd43_113 : sq_in 43 113 (.ireturn) 1 := by decide +kernel
theorem qd43_114 : sq_in 43 114 (.aload_n 0) 1 := by decide +kernel
theorem qd43_115 : sq_in 43 115 (.getfield 64) 3 := by decide +kernel
theorem qd43_118 : sq_in 43 118 (.ireturn) 1 := by decide +kernel
theorem qd43_119 : sq_in 43 119 (.aload_n 0) 1 := by decide +kernel
theorem qd43_120 : sq_in 43 120 (.invokevirtual 149) 3 := by decide +kernel
theorem qd43_123 : sq_in 43 123 (.ireturn) 1 := by decide +kernel
theorem qd43_124 : sq_in 43 124 (.aload_n 0) 1 := by decide +kernel
theorem qd43_125 : sq_in 43 125 (.getfield 54) 3 := by decide +kernel
theorem qd43_128 : sq_in 43 128 (.invokevirtual 165) 3 := by decide +kernel
theorem qd43_131 : sq_in 43 131 (.ireturn) 1 := by decide +kernel
-- 44: SewingPiles$Room.load(I)I
theorem qd44_0 : sq_in 44 0 (.aload_n 0) 1 := by decide +kernel
theorem qd44_1 : sq_in 44 1 (.iload_n 1) 1 := by decide +kernel
theorem qd44_2 : sq_in 44 2 (.invokevirtual 74) 3 := by decide +kernel
theorem qd44_5 : sq_in 44 5 (.ifCond .ne 5) 3 := by decide +kernel
theorem qd44_8 : sq_in 44 8 (.iconst 0) 1 := by decide +kernel
theorem qd44_9 : sq_in 44 9 (.ireturn) 1 := by decide +kernel
theorem qd44_10 : sq_in 44 10 (.aload_n 0) 1 := by decide +kernel
theorem qd44_11 : sq_in 44 11 (.getfield 54) 3 := by decide +kernel
theorem qd44_14 : sq_in 44 14 (.aload_n 0) 1 := by decide +kernel
theorem qd44_15 : sq_in 44 15 (.getfield 22) 3 := by decide +kernel
theorem qd44_18 : sq_in 44 18 (.iload_n 1) 1 := by decide +kernel
theorem qd44_19 : sq_in 44 19 (.iaload) 1 := by decide +kernel
theorem qd44_20 : sq_in 44 20 (.invokevirtual 123) 3 := by decide +kernel
theorem qd44_23 : sq_in 44 23 (.istore_n 2) 1 := by decide +kernel
theorem qd44_24 : sq_in 44 24 (.iconst 0) 1 := by decide +kernel
theorem qd44_25 : sq_in 44 25 (.istore_n 3) 1 := by decide +kernel
theorem qd44_26 : sq_in 44 26 (.iload_n 3) 1 := by decide +kernel
theorem qd44_27 : sq_in 44 27 (.bipush 16) 2 := by decide +kernel
theorem qd44_29 : sq_in 44 29 (.if_icmp .ge 28) 3 := by decide +kernel
theorem qd44_32 : sq_in 44 32 (.iload_n 2) 1 := by decide +kernel
theorem qd44_33 : sq_in 44 33 (.aload_n 0) 1 := by decide +kernel
theorem qd44_34 : sq_in 44 34 (.getfield 54) 3 := by decide +kernel
theorem qd44_37 : sq_in 44 37 (.aload_n 0) 1 := by decide +kernel
theorem qd44_38 : sq_in 44 38 (.getfield 47) 3 := by decide +kernel
theorem qd44_41 : sq_in 44 41 (.iload_n 1) 1 := by decide +kernel
theorem qd44_42 : sq_in 44 42 (.iload_n 3) 1 := by decide +kernel
theorem qd44_43 : sq_in 44 43 (.invokevirtual 142) 3 := by decide +kernel
theorem qd44_46 : sq_in 44 46 (.invokevirtual 123) 3 := by decide +kernel
theorem qd44_49 : sq_in 44 49 (.iadd) 1 := by decide +kernel
theorem qd44_50 : sq_in 44 50 (.istore_n 2) 1 := by decide +kernel
theorem qd44_51 : sq_in 44 51 (.iinc 3 1) 3 := by decide +kernel
theorem qd44_54 : sq_in 44 54 (.goto (-28)) 3 := by decide +kernel
theorem qd44_57 : sq_in 44 57 (.iload_n 2) 1 := by decide +kernel
theorem qd44_58 : sq_in 44 58 (.ireturn) 1 := by decide +kernel
-- 45: SewingPiles$Room.sewnShirts()I
theorem qd45_0 : sq_in 45 0 (.aload_n 0) 1 := by decide +kernel
theorem qd45_1 : sq_in 45 1 (.aload_n 0) 1 := by decide +kernel
theorem qd45_2 : sq_in 45 2 (.getfield 32) 3 := by decide +kernel
theorem qd45_5 : sq_in 45 5 (.invokevirtual 158) 3 := by decide +kernel
theorem qd45_8 : sq_in 45 8 (.ireturn) 1 := by decide +kernel
-- 46: SewingPiles$Room.fullHands()I
theorem qd46_0 : sq_in 46 0 (.iconst 0) 1 := by decide +kernel
theorem qd46_1 : sq_in 46 1 (.istore_n 1) 1 := by decide +kernel
theorem qd46_2 : sq_in 46 2 (.iconst 0) 1 := by decide +kernel
theorem qd46_3 : sq_in 46 3 (.istore_n 2) 1 := by decide +kernel
theorem qd46_4 : sq_in 46 4 (.iload_n 2) 1 := by decide +kernel
theorem qd46_5 : sq_in 46 5 (.aload_n 0) 1 := by decide +kernel
theorem qd46_6 : sq_in 46 6 (.getfield 9) 3 := by decide +kernel
theorem qd46_9 : sq_in 46 9 (.if_icmp .ge 28) 3 := by decide +kernel
theorem qd46_12 : sq_in 46 12 (.iload_n 2) 1 := by decide +kernel
theorem qd46_13 : sq_in 46 13 (.bipush 7) 2 := by decide +kernel
theorem qd46_15 : sq_in 46 15 (.if_icmp .ge 22) 3 := by decide +kernel
theorem qd46_18 : sq_in 46 18 (.aload_n 0) 1 := by decide +kernel
theorem qd46_19 : sq_in 46 19 (.getfield 22) 3 := by decide +kernel
theorem qd46_22 : sq_in 46 22 (.iload_n 2) 1 := by decide +kernel
theorem qd46_23 : sq_in 46 23 (.iaload) 1 := by decide +kernel
theorem qd46_24 : sq_in 46 24 (.iconst (-1)) 1 := by decide +kernel
theorem qd46_25 : sq_in 46 25 (.if_icmp .eq 6) 3 := by decide +kernel
theorem qd46_28 : sq_in 46 28 (.iinc 1 1) 3 := by decide +kernel
theorem qd46_31 : sq_in 46 31 (.iinc 2 1) 3 := by decide +kernel
theorem qd46_34 : sq_in 46 34 (.goto (-30)) 3 := by decide +kernel
theorem qd46_37 : sq_in 46 37 (.iload_n 1) 1 := by decide +kernel
theorem qd46_38 : sq_in 46 38 (.ireturn) 1 := by decide +kernel
-- 47: SewingPiles$Room.sleepers()I
theorem qd47_0 : sq_in 47 0 (.iconst 0) 1 := by decide +kernel
theorem qd47_1 : sq_in 47 1 (.istore_n 1) 1 := by decide +kernel
theorem qd47_2 : sq_in 47 2 (.iconst 0) 1 := by decide +kernel
theorem qd47_3 : sq_in 47 3 (.istore_n 2) 1 := by decide +kernel
theorem qd47_4 : sq_in 47 4 (.iload_n 2) 1 := by decide +kernel
theorem qd47_5 : sq_in 47 5 (.aload_n 0) 1 := by decide +kernel
theorem qd47_6 : sq_in 47 6 (.getfield 9) 3 := by decide +kernel
theorem qd47_9 : sq_in 47 9 (.if_icmp .ge 27) 3 := by decide +kernel
theorem qd47_12 : sq_in 47 12 (.iload_n 2) 1 := by decide +kernel
theorem qd47_13 : sq_in 47 13 (.bipush 7) 2 := by decide +kernel
theorem qd47_15 : sq_in 47 15 (.if_icmp .ge 21) 3 := by decide +kernel
theorem qd47_18 : sq_in 47 18 (.aload_n 0) 1 := by decide +kernel
theorem qd47_19 : sq_in 47 19 (.getfield 28) 3 := by decide +kernel
theorem qd47_22 : sq_in 47 22 (.iload_n 2) 1 := by decide +kernel
theorem qd47_23 : sq_in 47 23 (.baload) 1 := by decide +kernel
theorem qd47_24 : sq_in 47 24 (.ifCond .eq 6) 3 := by decide +kernel
theorem qd47_27 : sq_in 47 27 (.iinc 1 1) 3 := by decide +kernel
theorem qd47_30 : sq_in 47 30 (.iinc 2 1) 3 := by decide +kernel
theorem qd47_33 : sq_in 47 33 (.goto (-29)) 3 := by decide +kernel
theorem qd47_36 : sq_in 47 36 (.iload_n 1) 1 := by decide +kernel
theorem qd47_37 : sq_in 47 37 (.ireturn) 1 := by decide +kernel
-- 48: SewingPiles$Room.total([I)I
theorem qd48_0 : sq_in 48 0 (.iconst 0) 1 := by decide +kernel
theorem qd48_1 : sq_in 48 1 (.istore_n 2) 1 := by decide +kernel
theorem qd48_2 : sq_in 48 2 (.aload_n 1) 1 := by decide +kernel
theorem qd48_3 : sq_in 48 3 (.ifnull 31) 3 := by decide +kernel
theorem qd48_6 : sq_in 48 6 (.iconst 0) 1 := by decide +kernel
theorem qd48_7 : sq_in 48 7 (.istore_n 3) 1 := by decide +kernel
theorem qd48_8 : sq_in 48 8 (.iload_n 3) 1 := by decide +kernel
theorem qd48_9 : sq_in 48 9 (.aload_n 0) 1 := by decide +kernel
theorem qd48_10 : sq_in 48 10 (.getfield 9) 3 := by decide +kernel
theorem qd48_13 : sq_in 48 13 (.if_icmp .ge 21) 3 := by decide +kernel
theorem qd48_16 : sq_in 48 16 (.iload_n 3) 1 := by decide +kernel
theorem qd48_17 : sq_in 48 17 (.aload_n 1) 1 := by decide +kernel
theorem qd48_18 : sq_in 48 18 (.arraylength) 1 := by decide +kernel
theorem qd48_19 : sq_in 48 19 (.if_icmp .ge 15) 3 := by decide +kernel
theorem qd48_22 : sq_in 48 22 (.iload_n 2) 1 := by decide +kernel
theorem qd48_23 : sq_in 48 23 (.aload_n 1) 1 := by decide +kernel
theorem qd48_24 : sq_in 48 24 (.iload_n 3) 1 := by decide +kernel
theorem qd48_25 : sq_in 48 25 (.iaload) 1 := by decide +kernel
theorem qd48_26 : sq_in 48 26 (.iadd) 1 := by decide +kernel
theorem qd48_27 : sq_in 48 27 (.istore_n 2) 1 := by decide +kernel
theorem qd48_28 : sq_in 48 28 (.iinc 3 1) 3 := by decide +kernel
theorem qd48_31 : sq_in 48 31 (.goto (-23)) 3 := by decide +kernel
theorem qd48_34 : sq_in 48 34 (.iload_n 2) 1 := by decide +kernel
theorem qd48_35 : sq_in 48 35 (.ireturn) 1 := by decide +kernel
-- 49: SewingPiles$Shirts.<init>()V
theorem qd49_0 : sq_in 49 0 (.aload_n 0) 1 := by decide +kernel
theorem qd49_1 : sq_in 49 1 (.invokespecial 3) 3 := by decide +kernel
theorem qd49_4 : sq_in 49 4 (.aload_n 0) 1 := by decide +kernel
theorem qd49_5 : sq_in 49 5 (.bipush 120) 2 := by decide +kernel
theorem qd49_7 : sq_in 49 7 (.newarray .int) 2 := by decide +kernel
theorem qd49_9 : sq_in 49 9 (.putfield 9) 3 := by decide +kernel
theorem qd49_12 : sq_in 49 12 (.aload_n 0) 1 := by decide +kernel
theorem qd49_13 : sq_in 49 13 (.bipush 120) 2 := by decide +kernel
theorem qd49_15 : sq_in 49 15 (.newarray .int) 2 := by decide +kernel
theorem qd49_17 : sq_in 49 17 (.putfield 15) 3 := by decide +kernel
theorem qd49_20 : sq_in 49 20 (.aload_n 0) 1 := by decide +kernel
theorem qd49_21 : sq_in 49 21 (.bipush 120) 2 := by decide +kernel
theorem qd49_23 : sq_in 49 23 (.newarray .int) 2 := by decide +kernel
theorem qd49_25 : sq_in 49 25 (.putfield 18) 3 := by decide +kernel
theorem qd49_28 : sq_in 49 28 (.return_) 1 := by decide +kernel
-- 50: SewingPiles$Shirts.copyFrom(LSewingPiles$Shirts;)V
theorem qd50_0 : sq_in 50 0 (.aload_n 0) 1 := by decide +kernel
theorem qd50_1 : sq_in 50 1 (.aload_n 1) 1 := by decide +kernel
theorem qd50_2 : sq_in 50 2 (.getfield 21) 3 := by decide +kernel
theorem qd50_5 : sq_in 50 5 (.putfield 21) 3 := by decide +kernel
theorem qd50_8 : sq_in 50 8 (.iconst 0) 1 := by decide +kernel
theorem qd50_9 : sq_in 50 9 (.istore_n 2) 1 := by decide +kernel
theorem qd50_10 : sq_in 50 10 (.iload_n 2) 1 := by decide +kernel
theorem qd50_11 : sq_in 50 11 (.aload_n 0) 1 := by decide +kernel
theorem qd50_12 : sq_in 50 12 (.getfield 21) 3 := by decide +kernel
theorem qd50_15 : sq_in 50 15 (.if_icmp .ge 51) 3 := by decide +kernel
theorem qd50_18 : sq_in 50 18 (.iload_n 2) 1 := by decide +kernel
theorem qd50_19 : sq_in 50 19 (.bipush 120) 2 := by decide +kernel
theorem qd50_21 : sq_in 50 21 (.if_icmp .ge 45) 3 := by decide +kernel
theorem qd50_24 : sq_in 50 24 (.aload_n 0) 1 := by decide +kernel
theorem qd50_25 : sq_in 50 25 (.getfield 9) 3 := by decide +kernel
theorem qd50_28 : sq_in 50 28 (.iload_n 2) 1 := by decide +kernel
theorem qd50_29 : sq_in 50 29 (.aload_n 1) 1 := by decide +kernel
theorem qd50_30 : sq_in 50 30 (.getfield 9) 3 := by decide +kernel
theorem qd50_33 : sq_in 50 33 (.iload_n 2) 1 := by decide +kernel
theorem qd50_34 : sq_in 50 34 (.iaload) 1 := by decide +kernel
theorem qd50_35 : sq_in 50 35 (.iastore) 1 := by decide +kernel
theorem qd50_36 : sq_in 50 36 (.aload_n 0) 1 := by decide +kernel
theorem qd50_37 : sq_in 50 37 (.getfield 15) 3 := by decide +kernel
theorem qd50_40 : sq_in 50 40 (.iload_n 2) 1 := by decide +kernel
theorem qd50_41 : sq_in 50 41 (.aload_n 1) 1 := by decide +kernel
theorem qd50_42 : sq_in 50 42 (.getfield 15) 3 := by decide +kernel
theorem qd50_45 : sq_in 50 45 (.iload_n 2) 1 := by decide +kernel
theorem qd50_46 : sq_in 50 46 (.iaload) 1 := by decide +kernel
theorem qd50_47 : sq_in 50 47 (.iastore) 1 := by decide +kernel
theorem qd50_48 : sq_in 50 48 (.aload_n 0) 1 := by decide +kernel
theorem qd50_49 : sq_in 50 49 (.getfield 18) 3 := by decide +kernel
theorem qd50_52 : sq_in 50 52 (.iload_n 2) 1 := by decide +kernel
theorem qd50_53 : sq_in 50 53 (.aload_n 1) 1 := by decide +kernel
theorem qd50_54 : sq_in 50 54 (.getfield 18) 3 := by decide +kernel
theorem qd50_57 : sq_in 50 57 (.iload_n 2) 1 := by decide +kernel
theorem qd50_58 : sq_in 50 58 (.iaload) 1 := by decide +kernel
theorem qd50_59 : sq_in 50 59 (.iastore) 1 := by decide +kernel
theorem qd50_60 : sq_in 50 60 (.iinc 2 1) 3 := by decide +kernel
theorem qd50_63 : sq_in 50 63 (.goto (-53)) 3 := by decide +kernel
theorem qd50_66 : sq_in 50 66 (.return_) 1 := by decide +kernel
-- 51: SewingPiles$Shirts.has(I)Z
theorem qd51_0 : sq_in 51 0 (.iload_n 1) 1 := by decide +kernel
theorem qd51_1 : sq_in 51 1 (.ifCond .lt 21) 3 := by decide +kernel
theorem qd51_4 : sq_in 51 4 (.iload_n 1) 1 := by decide +kernel
theorem qd51_5 : sq_in 51 5 (.aload_n 0) 1 := by decide +kernel
theorem qd51_6 : sq_in 51 6 (.getfield 21) 3 := by decide +kernel
theorem qd51_9 : sq_in 51 9 (.if_icmp .ge 13) 3 := by decide +kernel
theorem qd51_12 : sq_in 51 12 (.iload_n 1) 1 := by decide +kernel
theorem qd51_13 : sq_in 51 13 (.bipush 120) 2 := by decide +kernel
theorem qd51_15 : sq_in 51 15 (.if_icmp .ge 7) 3 := by decide +kernel
theorem qd51_18 : sq_in 51 18 (.iconst 1) 1 := by decide +kernel
theorem qd51_19 : sq_in 51 19 (.goto 4) 3 := by decide +kernel
theorem qd51_22 : sq_in 51 22 (.iconst 0) 1 := by decide +kernel
theorem qd51_23 : sq_in 51 23 (.ireturn) 1 := by decide +kernel
-- 52: SewingPiles$Shirts.add(II)I
theorem qd52_0 : sq_in 52 0 (.aload_n 0) 1 := by decide +kernel
theorem qd52_1 : sq_in 52 1 (.getfield 21) 3 := by decide +kernel
theorem qd52_4 : sq_in 52 4 (.ifCond .lt 12) 3 := by decide +kernel
theorem qd52_7 : sq_in 52 7 (.aload_n 0) 1 := by decide +kernel
theorem qd52_8 : sq_in 52 8 (.getfield 21) 3 := by decide +kernel
theorem qd52_11 : sq_in 52 11 (.bipush 120) 2 := by decide +kernel
theorem qd52_13 : sq_in 52 13 (.if_icmp .lt 5) 3 := by decide +kernel
theorem qd52_16 : sq_in 52 16 (.iconst (-1)) 1 := by decide +kernel
theorem qd52_17 : sq_in 52 17 (.ireturn) 1 := by decide +kernel
theorem qd52_18 : sq_in 52 18 (.aload_n 0) 1 := by decide +kernel
theorem qd52_19 : sq_in 52 19 (.getfield 9) 3 := by decide +kernel
theorem qd52_22 : sq_in 52 22 (.aload_n 0) 1 := by decide +kernel
theorem qd52_23 : sq_in 52 23 (.getfield 21) 3 := by decide +kernel
theorem qd52_26 : sq_in 52 26 (.iload_n 2) 1 := by decide +kernel
theorem qd52_27 : sq_in 52 27 (.iastore) 1 := by decide +kernel
theorem qd52_28 : sq_in 52 28 (.aload_n 0) 1 := by decide +kernel
theorem qd52_29 : sq_in 52 29 (.getfield 15) 3 := by decide +kernel
theorem qd52_32 : sq_in 52 32 (.aload_n 0) 1 := by decide +kernel
theorem qd52_33 : sq_in 52 33 (.getfield 21) 3 := by decide +kernel
theorem qd52_36 : sq_in 52 36 (.iconst 0) 1 := by decide +kernel
theorem qd52_37 : sq_in 52 37 (.iastore) 1 := by decide +kernel
theorem qd52_38 : sq_in 52 38 (.aload_n 0) 1 := by decide +kernel
theorem qd52_39 : sq_in 52 39 (.getfield 18) 3 := by decide +kernel
theorem qd52_42 : sq_in 52 42 (.aload_n 0) 1 := by decide +kernel
theorem qd52_43 : sq_in 52 43 (.getfield 21) 3 := by decide +kernel
theorem qd52_46 : sq_in 52 46 (.iload_n 1) 1 := by decide +kernel
theorem qd52_47 : sq_in 52 47 (.iastore) 1 := by decide +kernel
theorem qd52_48 : sq_in 52 48 (.aload_n 0) 1 := by decide +kernel
theorem qd52_49 : sq_in 52 49 (.dup) 1 := by decide +kernel
theorem qd52_50 : sq_in 52 50 (.getfield 21) 3 := by decide +kernel
theorem qd52_53 : sq_in 52 53 (.iconst 1) 1 := by decide +kernel
theorem qd52_54 : sq_in 52 54 (.iadd) 1 := by decide +kernel
theorem qd52_55 : sq_in 52 55 (.putfield 21) 3 := by decide +kernel
theorem qd52_58 : sq_in 52 58 (.aload_n 0) 1 := by decide +kernel
theorem qd52_59 : sq_in 52 59 (.getfield 21) 3 := by decide +kernel
theorem qd52_62 : sq_in 52 62 (.iconst 1) 1 := by decide +kernel
theorem qd52_63 : sq_in 52 63 (.isub) 1 := by decide +kernel
theorem qd52_64 : sq_in 52 64 (.ireturn) 1 := by decide +kernel
-- 53: SewingPiles$Shirts.workOf(I)I
theorem qd53_0 : sq_in 53 0 (.iload_n 1) 1 := by decide +kernel
theorem qd53_1 : sq_in 53 1 (.ifCond .lt 26) 3 := by decide +kernel
theorem qd53_4 : sq_in 53 4 (.iload_n 1) 1 := by decide +kernel
theorem qd53_5 : sq_in 53 5 (.aload_n 0) 1 := by decide +kernel
theorem qd53_6 : sq_in 53 6 (.getfield 21) 3 := by decide +kernel
theorem qd53_9 : sq_in 53 9 (.if_icmp .ge 18) 3 := by decide +kernel
theorem qd53_12 : sq_in 53 12 (.iload_n 1) 1 := by decide +kernel
theorem qd53_13 : sq_in 53 13 (.bipush 120) 2 := by decide +kernel
theorem qd53_15 : sq_in 53 15 (.if_icmp .ge 12) 3 := by decide +kernel
theorem qd53_18 : sq_in 53 18 (.aload_n 0) 1 := by decide +kernel
theorem qd53_19 : sq_in 53 19 (.getfield 9) 3 := by decide +kernel
theorem qd53_22 : sq_in 53 22 (.iload_n 1) 1 := by decide +kernel
theorem qd53_23 : sq_in 53 23 (.iaload) 1 := by decide +kernel
theorem qd53_24 : sq_in 53 24 (.goto 4) 3 := by decide +kernel
theorem qd53_27 : sq_in 53 27 (.iconst 0) 1 := by decide +kernel
theorem qd53_28 : sq_in 53 28 (.ireturn) 1 := by decide +kernel
-- 54: SewingPiles$Shirts.setWork(II)V
theorem qd54_0 : sq_in 54 0 (.aload_n 0) 1 := by decide +kernel
theorem qd54_1 : sq_in 54 1 (.iload_n 1) 1 := by decide +kernel
theorem qd54_2 : sq_in 54 2 (.invokevirtual 25) 3 := by decide +kernel
theorem qd54_5 : sq_in 54 5 (.ifCond .eq 10) 3 := by decide +kernel
theorem qd54_8 : sq_in 54 8 (.aload_n 0) 1 := by decide +kernel
theorem qd54_9 : sq_in 54 9 (.getfield 9) 3 := by decide +kernel
theorem qd54_12 : sq_in 54 12 (.iload_n 1) 1 := by decide +kernel
theorem qd54_13 : sq_in 54 13 (.iload_n 2) 1 := by decide +kernel
theorem qd54_14 : sq_in 54 14 (.iastore) 1 := by decide +kernel
theorem qd54_15 : sq_in 54 15 (.return_) 1 := by decide +kernel
-- 55: SewingPiles$Shirts.move(III)V
theorem qd55_0 : sq_in 55 0 (.aload_n 0) 1 := by decide +kernel
theorem qd55_1 : sq_in 55 1 (.iload_n 1) 1 := by decide +kernel
theorem qd55_2 : sq_in 55 2 (.invokevirtual 25) 3 := by decide +kernel
theorem qd55_5 : sq_in 55 5 (.ifCond .eq 17) 3 := by decide +kernel
theorem qd55_8 : sq_in 55 8 (.aload_n 0) 1 := by decide +kernel
theorem qd55_9 : sq_in 55 9 (.getfield 15) 3 := by decide +kernel
theorem qd55_12 : sq_in 55 12 (.iload_n 1) 1 := by decide +kernel
theorem qd55_13 : sq_in 55 13 (.iload_n 2) 1 := by decide +kernel
theorem qd55_14 : sq_in 55 14 (.iastore) 1 := by decide +kernel
theorem qd55_15 : sq_in 55 15 (.aload_n 0) 1 := by decide +kernel
theorem qd55_16 : sq_in 55 16 (.getfield 18) 3 := by decide +kernel
theorem qd55_19 : sq_in 55 19 (.iload_n 1) 1 := by decide +kernel
theorem qd55_20 : sq_in 55 20 (.iload_n 3) 1 := by decide +kernel
theorem qd55_21 : sq_in 55 21 (.iastore) 1 := by decide +kernel
theorem qd55_22 : sq_in 55 22 (.return_) 1 := by decide +kernel
-- 56: SewingPiles$Shirts.number(II)I
theorem qd56_0 : sq_in 56 0 (.aload_n 0) 1 := by decide +kernel
theorem qd56_1 : sq_in 56 1 (.iload_n 1) 1 := by decide +kernel
theorem qd56_2 : sq_in 56 2 (.invokevirtual 25) 3 := by decide +kernel
theorem qd56_5 : sq_in 56 5 (.ifCond .ne 5) 3 := by decide +kernel
theorem qd56_8 : sq_in 56 8 (.iconst (-1)) 1 := by decide +kernel
theorem qd56_9 : sq_in 56 9 (.ireturn) 1 := by decide +kernel
theorem qd56_10 : sq_in 56 10 (.iload_n 2) 1 := by decide +kernel
theorem qd56_11 : sq_in 56 11 (.lookupswitch 39 #[(0, 25), (1, 32)]) 25 := by decide +kernel
theorem qd56_36 : sq_in 56 36 (.aload_n 0) 1 := by decide +kernel
theorem qd56_37 : sq_in 56 37 (.getfield 9) 3 := by decide +kernel
theorem qd56_40 : sq_in 56 40 (.iload_n 1) 1 := by decide +kernel
theorem qd56_41 : sq_in 56 41 (.iaload) 1 := by decide +kernel
theorem qd56_42 : sq_in 56 42 (.ireturn) 1 := by decide +kernel
theorem qd56_43 : sq_in 56 43 (.aload_n 0) 1 := by decide +kernel
theorem qd56_44 : sq_in 56 44 (.getfield 15) 3 := by decide +kernel
theorem qd56_47 : sq_in 56 47 (.iload_n 1) 1 := by decide +kernel
theorem qd56_48 : sq_in 56 48 (.iaload) 1 := by decide +kernel
theorem qd56_49 : sq_in 56 49 (.ireturn) 1 := by decide +kernel
theorem qd56_50 : sq_in 56 50 (.aload_n 0) 1 := by decide +kernel
theorem qd56_51 : sq_in 56 51 (.getfield 18) 3 := by decide +kernel
theorem qd56_54 : sq_in 56 54 (.iload_n 1) 1 := by decide +kernel
theorem qd56_55 : sq_in 56 55 (.iaload) 1 := by decide +kernel
theorem qd56_56 : sq_in 56 56 (.ireturn) 1 := by decide +kernel
-- 57: SewingPiles$Shirts.workLeft()I
theorem qd57_0 : sq_in 57 0 (.iconst 0) 1 := by decide +kernel
theorem qd57_1 : sq_in 57 1 (.istore_n 1) 1 := by decide +kernel
theorem qd57_2 : sq_in 57 2 (.iconst 0) 1 := by decide +kernel
theorem qd57_3 : sq_in 57 3 (.istore_n 2) 1 := by decide +kernel
theorem qd57_4 : sq_in 57 4 (.iload_n 2) 1 := by decide +kernel
theorem qd57_5 : sq_in 57 5 (.aload_n 0) 1 := by decide +kernel
theorem qd57_6 : sq_in 57 6 (.getfield 21) 3 := by decide +kernel
theorem qd57_9 : sq_in 57 9 (.if_icmp .ge 24) 3 := by decide +kernel
theorem qd57_12 : sq_in 57 12 (.iload_n 2) 1 := by decide +kernel
theorem qd57_13 : sq_in 57 13 (.bipush 120) 2 := by decide +kernel
theorem qd57_15 : sq_in 57 15 (.if_icmp .ge 18) 3 := by decide +kernel
theorem qd57_18 : sq_in 57 18 (.iload_n 1) 1 := by decide +kernel
theorem qd57_19 : sq_in 57 19 (.aload_n 0) 1 := by decide +kernel
theorem qd57_20 : sq_in 57 20 (.getfield 9) 3 := by decide +kernel
theorem qd57_23 : sq_in 57 23 (.iload_n 2) 1 := by decide +kernel
theorem qd57_24 : sq_in 57 24 (.iaload) 1 := by decide +kernel
theorem qd57_25 : sq_in 57 25 (.iadd) 1 := by decide +kernel
theorem qd57_26 : sq_in 57 26 (.istore_n 1) 1 := by decide +kernel
theorem qd57_27 : sq_in 57 27 (.iinc 2 1) 3 := by decide +kernel
theorem qd57_30 : sq_in 57 30 (.goto (-26)) 3 := by decide +kernel
theorem qd57_33 : sq_in 57 33 (.iload_n 1) 1 := by decide +kernel
theorem qd57_34 : sq_in 57 34 (.ireturn) 1 := by decide +kernel
end
section
/-! ===== the instruction at each place ===== -/
-- 58: SewingPiles.<init>()V
theorem qd58_0 : sq_in 58 0 (.aload_n 0) 1 := by decide +kernel
theorem qd58_1 : sq_in 58 1 (.invokespecial 1) 3 := by decide +kernel
theorem qd58_4 : sq_in 58 4 (.aload_n 0) 1 := by decide +kernel
theorem qd58_5 : sq_in 58 5 (.new 7) 3 := by decide +kernel
theorem qd58_8 : sq_in 58 8 (.dup) 1 := by decide +kernel
theorem qd58_9 : sq_in 58 9 (.invokespecial 9) 3 := by decide +kernel
theorem qd58_12 : sq_in 58 12 (.putfield 10) 3 := by decide +kernel
theorem qd58_15 : sq_in 58 15 (.aload_n 0) 1 := by decide +kernel
theorem qd58_16 : sq_in 58 16 (.new 7) 3 := by decide +kernel
theorem qd58_19 : sq_in 58 19 (.dup) 1 := by decide +kernel
theorem qd58_20 : sq_in 58 20 (.invokespecial 9) 3 := by decide +kernel
theorem qd58_23 : sq_in 58 23 (.putfield 16) 3 := by decide +kernel
theorem qd58_26 : sq_in 58 26 (.aload_n 0) 1 := by decide +kernel
theorem qd58_27 : sq_in 58 27 (.new 7) 3 := by decide +kernel
theorem qd58_30 : sq_in 58 30 (.dup) 1 := by decide +kernel
theorem qd58_31 : sq_in 58 31 (.invokespecial 9) 3 := by decide +kernel
theorem qd58_34 : sq_in 58 34 (.putfield 19) 3 := by decide +kernel
theorem qd58_37 : sq_in 58 37 (.aload_n 0) 1 := by decide +kernel
theorem qd58_38 : sq_in 58 38 (.new 22) 3 := by decide +kernel
theorem qd58_41 : sq_in 58 41 (.dup) 1 := by decide +kernel
theorem qd58_42 : sq_in 58 42 (.invokespecial 24) 3 := by decide +kernel
theorem qd58_45 : sq_in 58 45 (.putfield 25) 3 := by decide +kernel
theorem qd58_48 : sq_in 58 48 (.aload_n 0) 1 := by decide +kernel
theorem qd58_49 : sq_in 58 49 (.new 29) 3 := by decide +kernel
theorem qd58_52 : sq_in 58 52 (.dup) 1 := by decide +kernel
theorem qd58_53 : sq_in 58 53 (.invokespecial 31) 3 := by decide +kernel
theorem qd58_56 : sq_in 58 56 (.putfield 32) 3 := by decide +kernel
theorem qd58_59 : sq_in 58 59 (.return_) 1 := by decide +kernel
-- 59: SewingPiles.hire(I)I
theorem qd59_0 : sq_in 59 0 (.iload_n 1) 1 := by decide +kernel
theorem qd59_1 : sq_in 59 1 (.invokestatic 36) 3 := by decide +kernel
theorem qd59_4 : sq_in 59 4 (.aload_n 0) 1 := by decide +kernel
theorem qd59_5 : sq_in 59 5 (.getfield 10) 3 := by decide +kernel
theorem qd59_8 : sq_in 59 8 (.getfield 40) 3 := by decide +kernel
theorem qd59_11 : sq_in 59 11 (.bipush 6) 2 := by decide +kernel
theorem qd59_13 : sq_in 59 13 (.if_icmp .lt 13) 3 := by decide +kernel
theorem qd59_26 : sq_in 59 26 (.aload_n 0) 1 := by decide +kernel
theorem qd59_27 : sq_in 59 27 (.getfield 25) 3 := by decide +kernel
theorem qd59_30 : sq_in 59 30 (.aload_n 0) 1 := by decide +kernel
theorem qd59_31 : sq_in 59 31 (.getfield 10) 3 := by decide +kernel
theorem qd59_34 : sq_in 59 34 (.invokevirtual 51) 3 := by decide +kernel
theorem qd59_37 : sq_in 59 37 (.aload_n 0) 1 := by decide +kernel
theorem qd59_38 : sq_in 59 38 (.getfield 10) 3 := by decide +kernel
theorem qd59_41 : sq_in 59 41 (.iload_n 1) 1 := by decide +kernel
theorem qd59_42 : sq_in 59 42 (.invokevirtual 55) 3 := by decide +kernel
theorem qd59_45 : sq_in 59 45 (.ireturn) 1 := by decide +kernel
-- 60: SewingPiles.speed(II)I
theorem qd60_0 : sq_in 60 0 (.aload_n 0) 1 := by decide +kernel
theorem qd60_1 : sq_in 60 1 (.iload_n 1) 1 := by decide +kernel
theorem qd60_2 : sq_in 60 2 (.invokevirtual 59) 3 := by decide +kernel
theorem qd60_5 : sq_in 60 5 (.iload_n 2) 1 := by decide +kernel
theorem qd60_6 : sq_in 60 6 (.invokestatic 36) 3 := by decide +kernel
theorem qd60_9 : sq_in 60 9 (.aload_n 0) 1 := by decide +kernel
theorem qd60_10 : sq_in 60 10 (.getfield 25) 3 := by decide +kernel
theorem qd60_13 : sq_in 60 13 (.aload_n 0) 1 := by decide +kernel
theorem qd60_14 : sq_in 60 14 (.getfield 10) 3 := by decide +kernel
theorem qd60_17 : sq_in 60 17 (.invokevirtual 51) 3 := by decide +kernel
theorem qd60_20 : sq_in 60 20 (.aload_n 0) 1 := by decide +kernel
theorem qd60_21 : sq_in 60 21 (.getfield 10) 3 := by decide +kernel
theorem qd60_24 : sq_in 60 24 (.iload_n 1) 1 := by decide +kernel
theorem qd60_25 : sq_in 60 25 (.iload_n 2) 1 := by decide +kernel
theorem qd60_26 : sq_in 60 26 (.invokevirtual 62) 3 := by decide +kernel
theorem qd60_29 : sq_in 60 29 (.ireturn) 1 := by decide +kernel
-- 61: SewingPiles.lay(II)I
theorem qd61_0 : sq_in 61 0 (.aload_n 0) 1 := by decide +kernel
theorem qd61_1 : sq_in 61 1 (.iload_n 1) 1 := by decide +kernel
theorem qd61_2 : sq_in 61 2 (.invokevirtual 59) 3 := by decide +kernel
theorem qd61_5 : sq_in 61 5 (.iload_n 2) 1 := by decide +kernel
theorem qd61_6 : sq_in 61 6 (.iconst 1) 1 := by decide +kernel
theorem qd61_7 : sq_in 61 7 (.if_icmp .lt 9) 3 := by decide +kernel
theorem qd61_10 : sq_in 61 10 (.iload_n 2) 1 := by decide +kernel
theorem qd61_11 : sq_in 61 11 (.bipush 99) 2 := by decide +kernel
theorem qd61_13 : sq_in 61 13 (.if_icmp .le 13) 3 := by decide +kernel
theorem qd61_26 : sq_in 61 26 (.aload_n 0) 1 := by decide +kernel
theorem qd61_27 : sq_in 61 27 (.getfield 10) 3 := by decide +kernel
theorem qd61_30 : sq_in 61 30 (.iload_n 1) 1 := by decide +kernel
theorem qd61_31 : sq_in 61 31 (.invokevirtual 71) 3 := by decide +kernel
theorem qd61_34 : sq_in 61 34 (.ifCond .ne 13) 3 := by decide +kernel
theorem qd61_47 : sq_in 61 47 (.aload_n 0) 1 := by decide +kernel
theorem qd61_48 : sq_in 61 48 (.getfield 25) 3 := by decide +kernel
theorem qd61_51 : sq_in 61 51 (.aload_n 0) 1 := by decide +kernel
theorem qd61_52 : sq_in 61 52 (.getfield 10) 3 := by decide +kernel
theorem qd61_55 : sq_in 61 55 (.invokevirtual 51) 3 := by decide +kernel
theorem qd61_58 : sq_in 61 58 (.aload_n 0) 1 := by decide +kernel
theorem qd61_59 : sq_in 61 59 (.getfield 10) 3 := by decide +kernel
theorem qd61_62 : sq_in 61 62 (.iload_n 1) 1 := by decide +kernel
theorem qd61_63 : sq_in 61 63 (.iload_n 2) 1 := by decide +kernel
theorem qd61_64 : sq_in 61 64 (.invokevirtual 77) 3 := by decide +kernel
theorem qd61_67 : sq_in 61 67 (.ireturn) 1 := by decide +kernel
-- 62: SewingPiles.wake(I)I
theorem qd62_0 : sq_in 62 0 (.aload_n 0) 1 := by decide +kernel
theorem qd62_1 : sq_in 62 1 (.iload_n 1) 1 := by decide +kernel
theorem qd62_2 : sq_in 62 2 (.invokevirtual 59) 3 := by decide +kernel
theorem qd62_5 : sq_in 62 5 (.aload_n 0) 1 := by decide +kernel
theorem qd62_6 : sq_in 62 6 (.getfield 25) 3 := by decide +kernel
theorem qd62_9 : sq_in 62 9 (.aload_n 0) 1 := by decide +kernel
theorem qd62_10 : sq_in 62 10 (.getfield 10) 3 := by decide +kernel
theorem qd62_13 : sq_in 62 13 (.invokevirtual 51) 3 := by decide +kernel
theorem qd62_16 : sq_in 62 16 (.aload_n 0) 1 := by decide +kernel
theorem qd62_17 : sq_in 62 17 (.getfield 10) 3 := by decide +kernel
theorem qd62_20 : sq_in 62 20 (.iload_n 1) 1 := by decide +kernel
theorem qd62_21 : sq_in 62 21 (.invokevirtual 80) 3 := by decide +kernel
theorem qd62_24 : sq_in 62 24 (.ireturn) 1 := by decide +kernel
-- 63: SewingPiles.pass(I)I
theorem qd63_0 : sq_in 63 0 (.iload_n 1) 1 := by decide +kernel
theorem qd63_1 : sq_in 63 1 (.iconst 1) 1 := by decide +kernel
theorem qd63_2 : sq_in 63 2 (.if_icmp .lt 9) 3 := by decide +kernel
theorem qd63_5 : sq_in 63 5 (.iload_n 1) 1 := by decide +kernel
theorem qd63_6 : sq_in 63 6 (.bipush 99) 2 := by decide +kernel
theorem qd63_8 : sq_in 63 8 (.if_icmp .le 13) 3 := by decide +kernel
theorem qd63_21 : sq_in 63 21 (.aload_n 0) 1 := by decide +kernel
theorem qd63_22 : sq_in 63 22 (.getfield 25) 3 := by decide +kernel
theorem qd63_25 : sq_in 63 25 (.aload_n 0) 1 := by decide +kernel
theorem qd63_26 : sq_in 63 26 (.getfield 10) 3 := by decide +kernel
theorem qd63_29 : sq_in 63 29 (.invokevirtual 51) 3 := by decide +kernel
theorem qd63_32 : sq_in 63 32 (.aload_n 0) 1 := by decide +kernel
theorem qd63_33 : sq_in 63 33 (.getfield 10) 3 := by decide +kernel
theorem qd63_36 : sq_in 63 36 (.invokevirtual 85) 3 := by decide +kernel
theorem qd63_39 : sq_in 63 39 (.istore_n 2) 1 := by decide +kernel
theorem qd63_40 : sq_in 63 40 (.aload_n 0) 1 := by decide +kernel
theorem qd63_41 : sq_in 63 41 (.getfield 10) 3 := by decide +kernel
theorem qd63_44 : sq_in 63 44 (.iload_n 1) 1 := by decide +kernel
theorem qd63_45 : sq_in 63 45 (.invokevirtual 89) 3 := by decide +kernel
theorem qd63_48 : sq_in 63 48 (.aload_n 0) 1 := by decide +kernel
theorem qd63_49 : sq_in 63 49 (.getfield 10) 3 := by decide +kernel
theorem qd63_52 : sq_in 63 52 (.invokevirtual 85) 3 := by decide +kernel
theorem qd63_55 : sq_in 63 55 (.iload_n 2) 1 := by decide +kernel
theorem qd63_56 : sq_in 63 56 (.isub) 1 := by decide +kernel
theorem qd63_57 : sq_in 63 57 (.ireturn) 1 := by decide +kernel
-- 64: SewingPiles.set(II)I
theorem qd64_0 : sq_in 64 0 (.iload_n 1) 1 := by decide +kernel
theorem qd64_1 : sq_in 64 1 (.invokestatic 92) 3 := by decide +kernel
theorem qd64_4 : sq_in 64 4 (.iload_n 2) 1 := by decide +kernel
theorem qd64_5 : sq_in 64 5 (.getstatic 95) 3 := by decide +kernel
theorem qd64_8 : sq_in 64 8 (.iload_n 1) 1 := by decide +kernel
theorem qd64_9 : sq_in 64 9 (.iaload) 1 := by decide +kernel
theorem qd64_10 : sq_in 64 10 (.if_icmp .lt 12) 3 := by decide +kernel
theorem qd64_13 : sq_in 64 13 (.iload_n 2) 1 := by decide +kernel
theorem qd64_14 : sq_in 64 14 (.getstatic 99) 3 := by decide +kernel
theorem qd64_17 : sq_in 64 17 (.iload_n 1) 1 := by decide +kernel
theorem qd64_18 : sq_in 64 18 (.iaload) 1 := by decide +kernel
theorem qd64_19 : sq_in 64 19 (.if_icmp .le 13) 3 := by decide +kernel
theorem qd64_32 : sq_in 64 32 (.aload_n 0) 1 := by decide +kernel
theorem qd64_33 : sq_in 64 33 (.getfield 25) 3 := by decide +kernel
theorem qd64_36 : sq_in 64 36 (.aload_n 0) 1 := by decide +kernel
theorem qd64_37 : sq_in 64 37 (.getfield 10) 3 := by decide +kernel
theorem qd64_40 : sq_in 64 40 (.invokevirtual 51) 3 := by decide +kernel
theorem qd64_43 : sq_in 64 43 (.aload_n 0) 1 := by decide +kernel
theorem qd64_44 : sq_in 64 44 (.getfield 10) 3 := by decide +kernel
theorem qd64_47 : sq_in 64 47 (.getfield 104) 3 := by decide +kernel
theorem qd64_50 : sq_in 64 50 (.iload_n 1) 1 := by decide +kernel
theorem qd64_51 : sq_in 64 51 (.iaload) 1 := by decide +kernel
theorem qd64_52 : sq_in 64 52 (.istore_n 3) 1 := by decide +kernel
theorem qd64_53 : sq_in 64 53 (.aload_n 0) 1 := by decide +kernel
theorem qd64_54 : sq_in 64 54 (.getfield 10) 3 := by decide +kernel
theorem qd64_57 : sq_in 64 57 (.getfield 104) 3 := by decide +kernel
theorem qd64_60 : sq_in 64 60 (.iload_n 1) 1 := by decide +kernel
theorem qd64_61 : sq_in 64 61 (.iload_n 2) 1 := by decide +kernel
theorem qd64_62 : sq_in 64 62 (.iastore) 1 := by decide +kernel
theorem qd64_63 : sq_in 64 63 (.iload_n 3) 1 := by decide +kernel
theorem qd64_64 : sq_in 64 64 (.ireturn) 1 := by decide +kernel
-- 65: SewingPiles.append(I)I
theorem qd65_0 : sq_in 65 0 (.iload_n 1) 1 := by decide +kernel
theorem qd65_1 : sq_in 65 1 (.bipush 33) 2 := by decide +kernel
theorem qd65_3 : sq_in 65 3 (.if_icmp .lt 9) 3 := by decide +kernel
theorem qd65_6 : sq_in 65 6 (.iload_n 1) 1 := by decide +kernel
theorem qd65_7 : sq_in 65 7 (.bipush 126) 2 := by decide +kernel
theorem qd65_9 : sq_in 65 9 (.if_icmp .le 13) 3 := by decide +kernel
theorem qd65_22 : sq_in 65 22 (.aload_n 0) 1 := by decide +kernel
theorem qd65_23 : sq_in 65 23 (.getfield 32) 3 := by decide +kernel
theorem qd65_26 : sq_in 65 26 (.getfield 109) 3 := by decide +kernel
theorem qd65_29 : sq_in 65 29 (.bipush 60) 2 := by decide +kernel
theorem qd65_31 : sq_in 65 31 (.if_icmp .lt 13) 3 := by decide +kernel
theorem qd65_44 : sq_in 65 44 (.aload_n 0) 1 := by decide +kernel
theorem qd65_45 : sq_in 65 45 (.getfield 32) 3 := by decide +kernel
theorem qd65_48 : sq_in 65 48 (.iload_n 1) 1 := by decide +kernel
theorem qd65_49 : sq_in 65 49 (.invokevirtual 114) 3 := by decide +kernel
theorem qd65_52 : sq_in 65 52 (.aload_n 0) 1 := by decide +kernel
theorem qd65_53 : sq_in 65 53 (.getfield 32) 3 := by decide +kernel
theorem qd65_56 : sq_in 65 56 (.getfield 109) 3 := by decide +kernel
theorem qd65_59 : sq_in 65 59 (.ireturn) 1 := by decide +kernel
-- 66: SewingPiles.clearBuffer()I
theorem qd66_0 : sq_in 66 0 (.aload_n 0) 1 := by decide +kernel
theorem qd66_1 : sq_in 66 1 (.getfield 32) 3 := by decide +kernel
theorem qd66_4 : sq_in 66 4 (.invokevirtual 117) 3 := by decide +kernel
theorem qd66_7 : sq_in 66 7 (.ireturn) 1 := by decide +kernel
-- 67: SewingPiles.firstError()I
theorem qd67_0 : sq_in 67 0 (.aload_n 0) 1 := by decide +kernel
theorem qd67_1 : sq_in 67 1 (.getfield 32) 3 := by decide +kernel
theorem qd67_4 : sq_in 67 4 (.invokevirtual 120) 3 := by decide +kernel
theorem qd67_7 : sq_in 67 7 (.ireturn) 1 := by decide +kernel
-- 68: SewingPiles.obey()I
theorem qd68_0 : sq_in 68 0 (.aload_n 0) 1 := by decide +kernel
theorem qd68_1 : sq_in 68 1 (.getfield 32) 3 := by decide +kernel
theorem qd68_4 : sq_in 68 4 (.invokevirtual 123) 3 := by decide +kernel
theorem qd68_7 : sq_in 68 7 (.ifCond .ne 13) 3 := by decide +kernel
theorem qd68_20 : sq_in 68 20 (.aload_n 0) 1 := by decide +kernel
theorem qd68_21 : sq_in 68 21 (.getfield 25) 3 := by decide +kernel
theorem qd68_24 : sq_in 68 24 (.aload_n 0) 1 := by decide +kernel
theorem qd68_25 : sq_in 68 25 (.getfield 10) 3 := by decide +kernel
theorem qd68_28 : sq_in 68 28 (.invokevirtual 51) 3 := by decide +kernel
theorem qd68_31 : sq_in 68 31 (.iconst 0) 1 := by decide +kernel
theorem qd68_32 : sq_in 68 32 (.istore_n 1) 1 := by decide +kernel
theorem qd68_33 : sq_in 68 33 (.iconst 0) 1 := by decide +kernel
theorem qd68_34 : sq_in 68 34 (.istore_n 2) 1 := by decide +kernel
theorem qd68_35 : sq_in 68 35 (.iload_n 2) 1 := by decide +kernel
theorem qd68_36 : sq_in 68 36 (.aload_n 0) 1 := by decide +kernel
theorem qd68_37 : sq_in 68 37 (.getfield 32) 3 := by decide +kernel
theorem qd68_40 : sq_in 68 40 (.getfield 109) 3 := by decide +kernel
theorem qd68_43 : sq_in 68 43 (.if_icmp .ge 34) 3 := by decide +kernel
theorem qd68_46 : sq_in 68 46 (.aload_n 0) 1 := by decide +kernel
theorem qd68_47 : sq_in 68 47 (.getfield 32) 3 := by decide +kernel
theorem qd68_50 : sq_in 68 50 (.iload_n 2) 1 := by decide +kernel
theorem qd68_51 : sq_in 68 51 (.invokevirtual 129) 3 := by decide +kernel
theorem qd68_54 : sq_in 68 54 (.ifCond .eq 17) 3 := by decide +kernel
theorem qd68_57 : sq_in 68 57 (.aload_n 0) 1 := by decide +kernel
theorem qd68_58 : sq_in 68 58 (.iload_n 2) 1 := by decide +kernel
theorem qd68_59 : sq_in 68 59 (.invokevirtual 132) 3 := by decide +kernel
theorem qd68_62 : sq_in 68 62 (.ifCond .ne 6) 3 := by decide +kernel
theorem qd68_65 : sq_in 68 65 (.goto 12) 3 := by decide +kernel
theorem qd68_68 : sq_in 68 68 (.iinc 1 1) 3 := by decide +kernel
theorem qd68_71 : sq_in 68 71 (.iinc 2 1) 3 := by decide +kernel
theorem qd68_74 : sq_in 68 74 (.goto (-39)) 3 := by decide +kernel
theorem qd68_77 : sq_in 68 77 (.aload_n 0) 1 := by decide +kernel
theorem qd68_78 : sq_in 68 78 (.getfield 32) 3 := by decide +kernel
theorem qd68_81 : sq_in 68 81 (.invokevirtual 117) 3 := by decide +kernel
theorem qd68_84 : sq_in 68 84 (.pop) 1 := by decide +kernel
theorem qd68_85 : sq_in 68 85 (.iload_n 1) 1 := by decide +kernel
theorem qd68_86 : sq_in 68 86 (.ireturn) 1 := by decide +kernel
-- 69: SewingPiles.keep()I
theorem qd69_0 : sq_in 69 0 (.aload_n 0) 1 := by decide +kernel
theorem qd69_1 : sq_in 69 1 (.getfield 16) 3 := by decide +kernel
theorem qd69_4 : sq_in 69 4 (.aload_n 0) 1 := by decide +kernel
theorem qd69_5 : sq_in 69 5 (.getfield 10) 3 := by decide +kernel
theorem qd69_8 : sq_in 69 8 (.invokevirtual 135) 3 := by decide +kernel
theorem qd69_11 : sq_in 69 11 (.aload_n 0) 1 := by decide +kernel
theorem qd69_12 : sq_in 69 12 (.iconst 1) 1 := by decide +kernel
theorem qd69_13 : sq_in 69 13 (.putfield 138) 3 := by decide +kernel
theorem qd69_16 : sq_in 69 16 (.aload_n 0) 1 := by decide +kernel
theorem qd69_17 : sq_in 69 17 (.getfield 10) 3 := by decide +kernel
theorem qd69_20 : sq_in 69 20 (.getfield 142) 3 := by decide +kernel
theorem qd69_23 : sq_in 69 23 (.ireturn) 1 := by decide +kernel
-- 70: SewingPiles.goBack()I
theorem qd70_0 : sq_in 70 0 (.aload_n 0) 1 := by decide +kernel
theorem qd70_1 : sq_in 70 1 (.getfield 138) 3 := by decide +kernel
theorem qd70_4 : sq_in 70 4 (.ifCond .ne 13) 3 := by decide +kernel
theorem qd70_17 : sq_in 70 17 (.aload_n 0) 1 := by decide +kernel
theorem qd70_18 : sq_in 70 18 (.getfield 25) 3 := by decide +kernel
theorem qd70_21 : sq_in 70 21 (.aload_n 0) 1 := by decide +kernel
theorem qd70_22 : sq_in 70 22 (.getfield 10) 3 := by decide +kernel
theorem qd70_25 : sq_in 70 25 (.invokevirtual 51) 3 := by decide +kernel
theorem qd70_28 : sq_in 70 28 (.aload_n 0) 1 := by decide +kernel
theorem qd70_29 : sq_in 70 29 (.getfield 10) 3 := by decide +kernel
theorem qd70_32 : sq_in 70 32 (.aload_n 0) 1 := by decide +kernel
theorem qd70_33 : sq_in 70 33 (.getfield 16) 3 := by decide +kernel
theorem qd70_36 : sq_in 70 36 (.invokevirtual 135) 3 := by decide +kernel
theorem qd70_39 : sq_in 70 39 (.aload_n 0) 1 := by decide +kernel
theorem qd70_40 : sq_in 70 40 (.getfield 10) 3 := by decide +kernel
theorem qd70_43 : sq_in 70 43 (.getfield 142) 3 := by decide +kernel
theorem qd70_46 : sq_in 70 46 (.ireturn) 1 := by decide +kernel
-- 71: SewingPiles.undo()I
theorem qd71_0 : sq_in 71 0 (.aload_n 0) 1 := by decide +kernel
theorem qd71_1 : sq_in 71 1 (.getfield 25) 3 := by decide +kernel
theorem qd71_4 : sq_in 71 4 (.getfield 147) 3 := by decide +kernel
theorem qd71_7 : sq_in 71 7 (.ifCond .ne 13) 3 := by decide +kernel
theorem qd71_20 : sq_in 71 20 (.aload_n 0) 1 := by decide +kernel
theorem qd71_21 : sq_in 71 21 (.getfield 25) 3 := by decide +kernel
theorem qd71_24 : sq_in 71 24 (.aload_n 0) 1 := by decide +kernel
theorem qd71_25 : sq_in 71 25 (.getfield 10) 3 := by decide +kernel
theorem qd71_28 : sq_in 71 28 (.invokevirtual 152) 3 := by decide +kernel
theorem qd71_31 : sq_in 71 31 (.aload_n 0) 1 := by decide +kernel
theorem qd71_32 : sq_in 71 32 (.getfield 25) 3 := by decide +kernel
theorem qd71_35 : sq_in 71 35 (.getfield 147) 3 := by decide +kernel
theorem qd71_38 : sq_in 71 38 (.ireturn) 1 := by decide +kernel
-- 72: SewingPiles.seamstress(II)I
theorem qd72_0 : sq_in 72 0 (.aload_n 0) 1 := by decide +kernel
theorem qd72_1 : sq_in 72 1 (.iload_n 1) 1 := by decide +kernel
theorem qd72_2 : sq_in 72 2 (.invokevirtual 59) 3 := by decide +kernel
theorem qd72_5 : sq_in 72 5 (.iload_n 2) 1 := by decide +kernel
theorem qd72_6 : sq_in 72 6 (.ifCond .lt 9) 3 := by decide +kernel
theorem qd72_9 : sq_in 72 9 (.iload_n 2) 1 := by decide +kernel
theorem qd72_10 : sq_in 72 10 (.bipush 10) 2 := by decide +kernel
theorem qd72_12 : sq_in 72 12 (.if_icmp .lt 13) 3 := by decide +kernel
theorem qd72_25 : sq_in 72 25 (.aload_n 0) 1 := by decide +kernel
theorem qd72_26 : sq_in 72 26 (.getfield 10) 3 := by decide +kernel
theorem qd72_29 : sq_in 72 29 (.iload_n 1) 1 := by decide +kernel
theorem qd72_30 : sq_in 72 30 (.iload_n 2) 1 := by decide +kernel
theorem qd72_31 : sq_in 72 31 (.invokevirtual 157) 3 := by decide +kernel
theorem qd72_34 : sq_in 72 34 (.ireturn) 1 := by decide +kernel
-- 73: SewingPiles.pile(II)I
theorem qd73_0 : sq_in 73 0 (.aload_n 0) 1 := by decide +kernel
theorem qd73_1 : sq_in 73 1 (.iload_n 1) 1 := by decide +kernel
theorem qd73_2 : sq_in 73 2 (.invokevirtual 59) 3 := by decide +kernel
theorem qd73_5 : sq_in 73 5 (.iload_n 2) 1 := by decide +kernel
theorem qd73_6 : sq_in 73 6 (.ifCond .ge 13) 3 := by decide +kernel
theorem qd73_19 : sq_in 73 19 (.aload_n 0) 1 := by decide +kernel
theorem qd73_20 : sq_in 73 20 (.getfield 10) 3 := by decide +kernel
theorem qd73_23 : sq_in 73 23 (.getfield 162) 3 := by decide +kernel
theorem qd73_26 : sq_in 73 26 (.iload_n 1) 1 := by decide +kernel
theorem qd73_27 : sq_in 73 27 (.iload_n 2) 1 := by decide +kernel
theorem qd73_28 : sq_in 73 28 (.invokevirtual 166) 3 := by decide +kernel
theorem qd73_31 : sq_in 73 31 (.ireturn) 1 := by decide +kernel
-- 74: SewingPiles.shirt(II)I
theorem qd74_0 : sq_in 74 0 (.iload_n 1) 1 := by decide +kernel
theorem qd74_1 : sq_in 74 1 (.ifCond .lt 17) 3 := by decide +kernel
theorem qd74_4 : sq_in 74 4 (.iload_n 1) 1 := by decide +kernel
theorem qd74_5 : sq_in 74 5 (.aload_n 0) 1 := by decide +kernel
theorem qd74_6 : sq_in 74 6 (.getfield 10) 3 := by decide +kernel
theorem qd74_9 : sq_in 74 9 (.getfield 171) 3 := by decide +kernel
theorem qd74_12 : sq_in 74 12 (.getfield 175) 3 := by decide +kernel
theorem qd74_15 : sq_in 74 15 (.if_icmp .lt 13) 3 := by decide +kernel
theorem qd74_28 : sq_in 74 28 (.iload_n 2) 1 := by decide +kernel
theorem qd74_29 : sq_in 74 29 (.ifCond .lt 8) 3 := by decide +kernel
theorem qd74_32 : sq_in 74 32 (.iload_n 2) 1 := by decide +kernel
theorem qd74_33 : sq_in 74 33 (.iconst 3) 1 := by decide +kernel
theorem qd74_34 : sq_in 74 34 (.if_icmp .lt 13) 3 := by decide +kernel
theorem qd74_47 : sq_in 74 47 (.aload_n 0) 1 := by decide +kernel
theorem qd74_48 : sq_in 74 48 (.getfield 10) 3 := by decide +kernel
theorem qd74_51 : sq_in 74 51 (.getfield 171) 3 := by decide +kernel
theorem qd74_54 : sq_in 74 54 (.iload_n 1) 1 := by decide +kernel
theorem qd74_55 : sq_in 74 55 (.iload_n 2) 1 := by decide +kernel
theorem qd74_56 : sq_in 74 56 (.invokevirtual 187) 3 := by decide +kernel
theorem qd74_59 : sq_in 74 59 (.ireturn) 1 := by decide +kernel
-- 75: SewingPiles.count(I)I
theorem qd75_0 : sq_in 75 0 (.iload_n 1) 1 := by decide +kernel
theorem qd75_1 : sq_in 75 1 (.ifCond .lt 9) 3 := by decide +kernel
theorem qd75_4 : sq_in 75 4 (.iload_n 1) 1 := by decide +kernel
theorem qd75_5 : sq_in 75 5 (.bipush 12) 2 := by decide +kernel
theorem qd75_7 : sq_in 75 7 (.if_icmp .lt 13) 3 := by decide +kernel
theorem qd75_20 : sq_in 75 20 (.iload_n 1) 1 := by decide +kernel
theorem qd75_21 : sq_in 75 21 (.bipush 11) 2 := by decide +kernel
theorem qd75_23 : sq_in 75 23 (.if_icmp .ne 13) 3 := by decide +kernel
theorem qd75_26 : sq_in 75 26 (.aload_n 0) 1 := by decide +kernel
theorem qd75_27 : sq_in 75 27 (.getfield 25) 3 := by decide +kernel
theorem qd75_30 : sq_in 75 30 (.getfield 147) 3 := by decide +kernel
theorem qd75_33 : sq_in 75 33 (.goto 11) 3 := by decide +kernel
theorem qd75_36 : sq_in 75 36 (.aload_n 0) 1 := by decide +kernel
theorem qd75_37 : sq_in 75 37 (.getfield 10) 3 := by decide +kernel
theorem qd75_40 : sq_in 75 40 (.iload_n 1) 1 := by decide +kernel
theorem qd75_41 : sq_in 75 41 (.invokevirtual 192) 3 := by decide +kernel
theorem qd75_44 : sq_in 75 44 (.ireturn) 1 := by decide +kernel
-- 76: SewingPiles.setting(I)I
theorem qd76_0 : sq_in 76 0 (.iload_n 1) 1 := by decide +kernel
theorem qd76_1 : sq_in 76 1 (.invokestatic 92) 3 := by decide +kernel
theorem qd76_4 : sq_in 76 4 (.aload_n 0) 1 := by decide +kernel
theorem qd76_5 : sq_in 76 5 (.getfield 10) 3 := by decide +kernel
theorem qd76_8 : sq_in 76 8 (.getfield 104) 3 := by decide +kernel
theorem qd76_11 : sq_in 76 11 (.iload_n 1) 1 := by decide +kernel
theorem qd76_12 : sq_in 76 12 (.iaload) 1 := by decide +kernel
theorem qd76_13 : sq_in 76 13 (.ireturn) 1 := by decide +kernel
-- 77: SewingPiles.choice(I)I
theorem qd77_0 : sq_in 77 0 (.aload_n 0) 1 := by decide +kernel
theorem qd77_1 : sq_in 77 1 (.iload_n 1) 1 := by decide +kernel
theorem qd77_2 : sq_in 77 2 (.invokevirtual 59) 3 := by decide +kernel
theorem qd77_5 : sq_in 77 5 (.aload_n 0) 1 := by decide +kernel
theorem qd77_6 : sq_in 77 6 (.getfield 10) 3 := by decide +kernel
theorem qd77_9 : sq_in 77 9 (.iload_n 1) 1 := by decide +kernel
theorem qd77_10 : sq_in 77 10 (.invokevirtual 195) 3 := by decide +kernel
theorem qd77_13 : sq_in 77 13 (.ireturn) 1 := by decide +kernel
-- 78: SewingPiles.doneIn()I
theorem qd78_0 : sq_in 78 0 (.aload_n 0) 1 := by decide +kernel
theorem qd78_1 : sq_in 78 1 (.getfield 19) 3 := by decide +kernel
theorem qd78_4 : sq_in 78 4 (.aload_n 0) 1 := by decide +kernel
theorem qd78_5 : sq_in 78 5 (.getfield 10) 3 := by decide +kernel
theorem qd78_8 : sq_in 78 8 (.invokevirtual 135) 3 := by decide +kernel
theorem qd78_11 : sq_in 78 11 (.aload_n 0) 1 := by decide +kernel
theorem qd78_12 : sq_in 78 12 (.getfield 19) 3 := by decide +kernel
theorem qd78_15 : sq_in 78 15 (.iconst 1) 1 := by decide +kernel
theorem qd78_16 : sq_in 78 16 (.invokevirtual 198) 3 := by decide +kernel
theorem qd78_19 : sq_in 78 19 (.ireturn) 1 := by decide +kernel
-- 79: SewingPiles.doneAlone()I
theorem qd79_0 : sq_in 79 0 (.aload_n 0) 1 := by decide +kernel
theorem qd79_1 : sq_in 79 1 (.getfield 19) 3 := by decide +kernel
theorem qd79_4 : sq_in 79 4 (.aload_n 0) 1 := by decide +kernel
theorem qd79_5 : sq_in 79 5 (.getfield 10) 3 := by decide +kernel
theorem qd79_8 : sq_in 79 8 (.invokevirtual 135) 3 := by decide +kernel
theorem qd79_11 : sq_in 79 11 (.aload_n 0) 1 := by decide +kernel
theorem qd79_12 : sq_in 79 12 (.getfield 19) 3 := by decide +kernel
theorem qd79_15 : sq_in 79 15 (.iconst 0) 1 := by decide +kernel
theorem qd79_16 : sq_in 79 16 (.invokevirtual 198) 3 := by decide +kernel
theorem qd79_19 : sq_in 79 19 (.ireturn) 1 := by decide +kernel
-- 80: SewingPiles.doneWith(I)I
theorem qd80_0 : sq_in 80 0 (.iload_n 1) 1 := by decide +kernel
theorem qd80_1 : sq_in 80 1 (.invokestatic 36) 3 := by decide +kernel
theorem qd80_4 : sq_in 80 4 (.aload_n 0) 1 := by decide +kernel
theorem qd80_5 : sq_in 80 5 (.getfield 19) 3 := by decide +kernel
theorem qd80_8 : sq_in 80 8 (.aload_n 0) 1 := by decide +kernel
theorem qd80_9 : sq_in 80 9 (.getfield 10) 3 := by decide +kernel
theorem qd80_12 : sq_in 80 12 (.invokevirtual 135) 3 := by decide +kernel
theorem qd80_15 : sq_in 80 15 (.aload_n 0) 1 := by decide +kernel
theorem qd80_16 : sq_in 80 16 (.getfield 19) 3 := by decide +kernel
theorem qd80_19 : sq_in 80 19 (.iload_n 1) 1 := by decide +kernel
theorem qd80_20 : sq_in 80 20 (.invokevirtual 55) 3 := by decide +kernel
theorem qd80_23 : sq_in 80 23 (.pop) 1 := by decide +kernel
theorem qd80_24 : sq_in 80 24 (.aload_n 0) 1 := by decide +kernel
theorem qd80_25 : sq_in 80 25 (.getfield 19) 3 := by decide +kernel
theorem qd80_28 : sq_in 80 28 (.iconst 1) 1 := by decide +kernel
theorem qd80_29 : sq_in 80 29 (.invokevirtual 198) 3 := by decide +kernel
theorem qd80_32 : sq_in 80 32 (.ireturn) 1 := by decide +kernel
-- 81: SewingPiles.ifPassed(II)I
theorem qd81_0 : sq_in 81 0 (.iload_n 1) 1 := by decide +kernel
theorem qd81_1 : sq_in 81 1 (.iconst 1) 1 := by decide +kernel
theorem qd81_2 : sq_in 81 2 (.if_icmp .lt 19) 3 := by decide +kernel
theorem qd81_5 : sq_in 81 5 (.iload_n 1) 1 := by decide +kernel
theorem qd81_6 : sq_in 81 6 (.sipush 200) 3 := by decide +kernel
theorem qd81_9 : sq_in 81 9 (.if_icmp .gt 12) 3 := by decide +kernel
theorem qd81_12 : sq_in 81 12 (.iload_n 2) 1 := by decide +kernel
theorem qd81_13 : sq_in 81 13 (.ifCond .lt 8) 3 := by decide +kernel
theorem qd81_16 : sq_in 81 16 (.iload_n 2) 1 := by decide +kernel
theorem qd81_17 : sq_in 81 17 (.iconst 4) 1 := by decide +kernel
theorem qd81_18 : sq_in 81 18 (.if_icmp .lt 13) 3 := by decide +kernel
theorem qd81_31 : sq_in 81 31 (.aload_n 0) 1 := by decide +kernel
theorem qd81_32 : sq_in 81 32 (.getfield 19) 3 := by decide +kernel
theorem qd81_35 : sq_in 81 35 (.aload_n 0) 1 := by decide +kernel
theorem qd81_36 : sq_in 81 36 (.getfield 10) 3 := by decide +kernel
theorem qd81_39 : sq_in 81 39 (.invokevirtual 135) 3 := by decide +kernel
theorem qd81_42 : sq_in 81 42 (.aload_n 0) 1 := by decide +kernel
theorem qd81_43 : sq_in 81 43 (.getfield 19) 3 := by decide +kernel
theorem qd81_46 : sq_in 81 46 (.iload_n 1) 1 := by decide +kernel
theorem qd81_47 : sq_in 81 47 (.invokevirtual 89) 3 := by decide +kernel
theorem qd81_50 : sq_in 81 50 (.iload_n 2) 1 := by decide +kernel
theorem qd81_51 : sq_in 81 51 (.tableswitch 101 0 2 #[25, 41, 71]) 25 := by decide +kernel
theorem qd81_76 : sq_in 81 76 (.aload_n 0) 1 := by decide +kernel
theorem qd81_77 : sq_in 81 77 (.getfield 19) 3 := by decide +kernel
theorem qd81_80 : sq_in 81 80 (.invokevirtual 85) 3 := by decide +kernel
theorem qd81_83 : sq_in 81 83 (.aload_n 0) 1 := by decide +kernel
theorem qd81_84 : sq_in 81 84 (.getfield 10) 3 := by decide +kernel
theorem qd81_87 : sq_in 81 87 (.invokevirtual 85) 3 := by decide +kernel
theorem qd81_90 : sq_in 81 90 (.isub) 1 := by decide +kernel
theorem qd81_91 : sq_in 81 91 (.ireturn) 1 := by decide +kernel
theorem qd81_92 : sq_in 81 92 (.aload_n 0) 1 := by decide +kernel
theorem qd81_93 : sq_in 81 93 (.getfield 19) 3 := by decide +kernel
theorem qd81_96 : sq_in 81 96 (.aload_n 0) 1 := by decide +kernel
theorem qd81_97 : sq_in 81 97 (.getfield 19) 3 := by decide +kernel
theorem qd81_100 : sq_in 81 100 (.getfield 204) 3 := by decide +kernel
theorem qd81_103 : sq_in 81 103 (.invokevirtual 207) 3 := by decide +kernel
theorem qd81_106 : sq_in 81 106 (.aload_n 0) 1 := by decide +kernel
theorem qd81_107 : sq_in 81 107 (.getfield 10) 3 := by decide +kernel
theorem qd81_110 : sq_in 81 110 (.aload_n 0) 1 := by decide +kernel
theorem qd81_111 : sq_in 81 111 (.getfield 10) 3 := by decide +kernel
theorem qd81_114 : sq_in 81 114 (.getfield 204) 3 := by decide +kernel
theorem qd81_117 : sq_in 81 117 (.invokevirtual 207) 3 := by decide +kernel
theorem qd81_120 : sq_in 81 120 (.isub) 1 := by decide +kernel
theorem qd81_121 : sq_in 81 121 (.ireturn) 1 := by decide +kernel
theorem qd81_122 : sq_in 81 122 (.aload_n 0) 1 := by decide +kernel
theorem qd81_123 : sq_in 81 123 (.getfield 19) 3 := by decide +kernel
theorem qd81_126 : sq_in 81 126 (.aload_n 0) 1 := by decide +kernel
theorem qd81_127 : sq_in 81 127 (.getfield 19) 3 := by decide +kernel
theorem qd81_130 : sq_in 81 130 (.getfield 211) 3 := by decide +kernel
theorem qd81_133 : sq_in 81 133 (.invokevirtual 207) 3 := by decide +kernel
theorem qd81_136 : sq_in 81 136 (.aload_n 0) 1 := by decide +kernel
theorem qd81_137 : sq_in 81 137 (.getfield 10) 3 := by decide +kernel
theorem qd81_140 : sq_in 81 140 (.aload_n 0) 1 := by decide +kernel
theorem qd81_141 : sq_in 81 141 (.getfield 10) 3 := by decide +kernel
theorem qd81_144 : sq_in 81 144 (.getfield 211) 3 := by decide +kernel
theorem qd81_147 : sq_in 81 147 (.invokevirtual 207) 3 := by decide +kernel
theorem qd81_150 : sq_in 81 150 (.isub) 1 := by decide +kernel
theorem qd81_151 : sq_in 81 151 (.ireturn) 1 := by decide +kernel
theorem qd81_152 : sq_in 81 152 (.aload_n 0) 1 := by decide +kernel
theorem qd81_153 : sq_in 81 153 (.getfield 19) 3 := by decide +kernel
theorem qd81_156 : sq_in 81 156 (.getfield 171) 3 := by decide +kernel
theorem qd81_159 : sq_in 81 159 (.invokevirtual 214) 3 := by decide +kernel
theorem qd81_162 : sq_in 81 162 (.ireturn) 1 := by decide +kernel
-- 82: SewingPiles.takenShare()D
theorem qd82_0 : sq_in 82 0 (.aload_n 0) 1 := by decide +kernel
theorem qd82_1 : sq_in 82 1 (.getfield 10) 3 := by decide +kernel
theorem qd82_4 : sq_in 82 4 (.getfield 217) 3 := by decide +kernel
theorem qd82_7 : sq_in 82 7 (.ifCond .ne 5) 3 := by decide +kernel
theorem qd82_10 : sq_in 82 10 (.dconst 0) 1 := by decide +kernel
theorem qd82_11 : sq_in 82 11 (.dreturn) 1 := by decide +kernel
theorem qd82_12 : sq_in 82 12 (.aload_n 0) 1 := by decide +kernel
theorem qd82_13 : sq_in 82 13 (.getfield 10) 3 := by decide +kernel
theorem qd82_16 : sq_in 82 16 (.aload_n 0) 1 := by decide +kernel
theorem qd82_17 : sq_in 82 17 (.getfield 10) 3 := by decide +kernel
theorem qd82_20 : sq_in 82 20 (.getfield 204) 3 := by decide +kernel
theorem qd82_23 : sq_in 82 23 (.invokevirtual 207) 3 := by decide +kernel
theorem qd82_26 : sq_in 82 26 (.i2d) 1 := by decide +kernel
theorem qd82_27 : sq_in 82 27 (.aload_n 0) 1 := by decide +kernel
theorem qd82_28 : sq_in 82 28 (.getfield 10) 3 := by decide +kernel
theorem qd82_31 : sq_in 82 31 (.getfield 217) 3 := by decide +kernel
theorem qd82_34 : sq_in 82 34 (.i2d) 1 := by decide +kernel
theorem qd82_35 : sq_in 82 35 (.ddiv) 1 := by decide +kernel
theorem qd82_36 : sq_in 82 36 (.dreturn) 1 := by decide +kernel
-- 83: SewingPiles.evenness()F
theorem qd83_0 : sq_in 83 0 (.aload_n 0) 1 := by decide +kernel
theorem qd83_1 : sq_in 83 1 (.getfield 10) 3 := by decide +kernel
theorem qd83_4 : sq_in 83 4 (.iconst 0) 1 := by decide +kernel
theorem qd83_5 : sq_in 83 5 (.invokevirtual 220) 3 := by decide +kernel
theorem qd83_8 : sq_in 83 8 (.istore_n 1) 1 := by decide +kernel
theorem qd83_9 : sq_in 83 9 (.iload_n 1) 1 := by decide +kernel
theorem qd83_10 : sq_in 83 10 (.istore_n 2) 1 := by decide +kernel
theorem qd83_11 : sq_in 83 11 (.iconst 1) 1 := by decide +kernel
theorem qd83_12 : sq_in 83 12 (.istore_n 3) 1 := by decide +kernel
theorem qd83_13 : sq_in 83 13 (.iload_n 3) 1 := by decide +kernel
theorem qd83_14 : sq_in 83 14 (.aload_n 0) 1 := by decide +kernel
theorem qd83_15 : sq_in 83 15 (.getfield 10) 3 := by decide +kernel
theorem qd83_18 : sq_in 83 18 (.getfield 40) 3 := by decide +kernel
theorem qd83_21 : sq_in 83 21 (.if_icmp .ge 45) 3 := by decide +kernel
theorem qd83_24 : sq_in 83 24 (.aload_n 0) 1 := by decide +kernel
theorem qd83_25 : sq_in 83 25 (.getfield 10) 3 := by decide +kernel
theorem qd83_28 : sq_in 83 28 (.iload_n 3) 1 := by decide +kernel
theorem qd83_29 : sq_in 83 29 (.invokevirtual 220) 3 := by decide +kernel
theorem qd83_32 : sq_in 83 32 (.istore 4) 2 := by decide +kernel
theorem qd83_34 : sq_in 83 34 (.iload 4) 2 := by decide +kernel
theorem qd83_36 : sq_in 83 36 (.iload_n 1) 1 := by decide +kernel
theorem qd83_37 : sq_in 83 37 (.if_icmp .ge 8) 3 := by decide +kernel
theorem qd83_40 : sq_in 83 40 (.iload 4) 2 := by decide +kernel
theorem qd83_42 : sq_in 83 42 (.goto 4) 3 := by decide +kernel
theorem qd83_45 : sq_in 83 45 (.iload_n 1) 1 := by decide +kernel
theorem qd83_46 : sq_in 83 46 (.istore_n 1) 1 := by decide +kernel
theorem qd83_47 : sq_in 83 47 (.iload 4) 2 := by decide +kernel
theorem qd83_49 : sq_in 83 49 (.iload_n 2) 1 := by decide +kernel
theorem qd83_50 : sq_in 83 50 (.if_icmp .le 8) 3 := by decide +kernel
theorem qd83_53 : sq_in 83 53 (.iload 4) 2 := by decide +kernel
theorem qd83_55 : sq_in 83 55 (.goto 4) 3 := by decide +kernel
theorem qd83_58 : sq_in 83 58 (.iload_n 2) 1 := by decide +kernel
theorem qd83_59 : sq_in 83 59 (.istore_n 2) 1 := by decide +kernel
theorem qd83_60 : sq_in 83 60 (.iinc 3 1) 3 := by decide +kernel
theorem qd83_63 : sq_in 83 63 (.goto (-50)) 3 := by decide +kernel
theorem qd83_66 : sq_in 83 66 (.iload_n 2) 1 := by decide +kernel
theorem qd83_67 : sq_in 83 67 (.ifCond .ne 7) 3 := by decide +kernel
theorem qd83_70 : sq_in 83 70 (.fconst 1) 1 := by decide +kernel
theorem qd83_71 : sq_in 83 71 (.goto 8) 3 := by decide +kernel
theorem qd83_74 : sq_in 83 74 (.iload_n 1) 1 := by decide +kernel
theorem qd83_75 : sq_in 83 75 (.i2f) 1 := by decide +kernel
theorem qd83_76 : sq_in 83 76 (.iload_n 2) 1 := by decide +kernel
theorem qd83_77 : sq_in 83 77 (.i2f) 1 := by decide +kernel
theorem qd83_78 : sq_in 83 78 (.fdiv) 1 := by decide +kernel
theorem qd83_79 : sq_in 83 79 (.freturn) 1 := by decide +kernel
-- 84: SewingPiles.digest()J
theorem qd84_0 : sq_in 84 0 (.ldc2_w 223) 3 := by decide +kernel
theorem qd84_3 : sq_in 84 3 (.lstore_n 1) 1 := by decide +kernel
theorem qd84_4 : sq_in 84 4 (.iconst 0) 1 := by decide +kernel
theorem qd84_5 : sq_in 84 5 (.istore_n 3) 1 := by decide +kernel
theorem qd84_6 : sq_in 84 6 (.iload_n 3) 1 := by decide +kernel
theorem qd84_7 : sq_in 84 7 (.bipush 12) 2 := by decide +kernel
theorem qd84_9 : sq_in 84 9 (.if_icmp .ge 22) 3 := by decide +kernel
theorem qd84_12 : sq_in 84 12 (.ldc2_w 225) 3 := by decide +kernel
theorem qd84_15 : sq_in 84 15 (.lload_n 1) 1 := by decide +kernel
theorem qd84_16 : sq_in 84 16 (.lmul) 1 := by decide +kernel
theorem qd84_17 : sq_in 84 17 (.aload_n 0) 1 := by decide +kernel
theorem qd84_18 : sq_in 84 18 (.iload_n 3) 1 := by decide +kernel
theorem qd84_19 : sq_in 84 19 (.invokevirtual 227) 3 := by decide +kernel
theorem qd84_22 : sq_in 84 22 (.i2l) 1 := by decide +kernel
theorem qd84_23 : sq_in 84 23 (.ladd) 1 := by decide +kernel
theorem qd84_24 : sq_in 84 24 (.lstore_n 1) 1 := by decide +kernel
theorem qd84_25 : sq_in 84 25 (.iinc 3 1) 3 := by decide +kernel
theorem qd84_28 : sq_in 84 28 (.goto (-22)) 3 := by decide +kernel
theorem qd84_31 : sq_in 84 31 (.iconst 0) 1 := by decide +kernel
theorem qd84_32 : sq_in 84 32 (.istore_n 3) 1 := by decide +kernel
theorem qd84_33 : sq_in 84 33 (.iload_n 3) 1 := by decide +kernel
theorem qd84_34 : sq_in 84 34 (.iconst 3) 1 := by decide +kernel
theorem qd84_35 : sq_in 84 35 (.if_icmp .ge 22) 3 := by decide +kernel
theorem qd84_38 : sq_in 84 38 (.ldc2_w 225) 3 := by decide +kernel
theorem qd84_41 : sq_in 84 41 (.lload_n 1) 1 := by decide +kernel
theorem qd84_42 : sq_in 84 42 (.lmul) 1 := by decide +kernel
theorem qd84_43 : sq_in 84 43 (.aload_n 0) 1 := by decide +kernel
theorem qd84_44 : sq_in 84 44 (.iload_n 3) 1 := by decide +kernel
theorem qd84_45 : sq_in 84 45 (.invokevirtual 229) 3 := by decide +kernel
theorem qd84_48 : sq_in 84 48 (.i2l) 1 := by decide +kernel
theorem qd84_49 : sq_in 84 49 (.ladd) 1 := by decide +kernel
theorem qd84_50 : sq_in 84 50 (.lstore_n 1) 1 := by decide +kernel
theorem qd84_51 : sq_in 84 51 (.iinc 3 1) 3 := by decide +kernel
theorem qd84_54 : sq_in 84 54 (.goto (-21)) 3 := by decide +kernel
theorem qd84_57 : sq_in 84 57 (.aload_n 0) 1 := by decide +kernel
theorem qd84_58 : sq_in 84 58 (.lload_n 1) 1 := by decide +kernel
theorem qd84_59 : sq_in 84 59 (.invokevirtual 232) 3 := by decide +kernel
theorem qd84_62 : sq_in 84 62 (.lstore_n 1) 1 := by decide +kernel
theorem qd84_63 : sq_in 84 63 (.aload_n 0) 1 := by decide +kernel
theorem qd84_64 : sq_in 84 64 (.lload_n 1) 1 := by decide +kernel
theorem qd84_65 : sq_in 84 65 (.invokevirtual 236) 3 := by decide +kernel
theorem qd84_68 : sq_in 84 68 (.lstore_n 1) 1 := by decide +kernel
theorem qd84_69 : sq_in 84 69 (.ldc2_w 225) 3 := by decide +kernel
theorem qd84_72 : sq_in 84 72 (.lload_n 1) 1 := by decide +kernel
theorem qd84_73 : sq_in 84 73 (.lmul) 1 := by decide +kernel
theorem qd84_74 : sq_in 84 74 (.aload_n 0) 1 := by decide +kernel
theorem qd84_75 : sq_in 84 75 (.invokevirtual 239) 3 := by decide +kernel
theorem qd84_78 : sq_in 84 78 (.i2l) 1 := by decide +kernel
theorem qd84_79 : sq_in 84 79 (.ladd) 1 := by decide +kernel
theorem qd84_80 : sq_in 84 80 (.lstore_n 1) 1 := by decide +kernel
theorem qd84_81 : sq_in 84 81 (.ldc2_w 225) 3 := by decide +kernel
theorem qd84_84 : sq_in 84 84 (.lload_n 1) 1 := by decide +kernel
theorem qd84_85 : sq_in 84 85 (.lmul) 1 := by decide +kernel
theorem qd84_86 : sq_in 84 86 (.aload_n 0) 1 := by decide +kernel
theorem qd84_87 : sq_in 84 87 (.invokevirtual 242) 3 := by decide +kernel
theorem qd84_90 : sq_in 84 90 (.i2l) 1 := by decide +kernel
theorem qd84_91 : sq_in 84 91 (.ladd) 1 := by decide +kernel
theorem qd84_92 : sq_in 84 92 (.lstore_n 1) 1 := by decide +kernel
theorem qd84_93 : sq_in 84 93 (.ldc2_w 225) 3 := by decide +kernel
theorem qd84_96 : sq_in 84 96 (.lload_n 1) 1 := by decide +kernel
theorem qd84_97 : sq_in 84 97 (.lmul) 1 := by decide +kernel
theorem qd84_98 : sq_in 84 98 (.aload_n 0) 1 := by decide +kernel
theorem qd84_99 : sq_in 84 99 (.iconst 1) 1 := by decide +kernel
theorem qd84_100 : sq_in 84 100 (.invokevirtual 245) 3 := by decide +kernel
theorem qd84_103 : sq_in 84 103 (.i2l) 1 := by decide +kernel
theorem qd84_104 : sq_in 84 104 (.ladd) 1 := by decide +kernel
theorem qd84_105 : sq_in 84 105 (.lstore_n 1) 1 := by decide +kernel
theorem qd84_106 : sq_in 84 106 (.ldc2_w 225) 3 := by decide +kernel
theorem qd84_109 : sq_in 84 109 (.lload_n 1) 1 := by decide +kernel
theorem qd84_110 : sq_in 84 110 (.lmul) 1 := by decide +kernel
theorem qd84_111 : sq_in 84 111 (.aload_n 0) 1 := by decide +kernel
theorem qd84_112 : sq_in 84 112 (.bipush 9) 2 := by decide +kernel
theorem qd84_114 : sq_in 84 114 (.invokevirtual 245) 3 := by decide +kernel
theorem qd84_117 : sq_in 84 117 (.i2l) 1 := by decide +kernel
theorem qd84_118 : sq_in 84 118 (.ladd) 1 := by decide +kernel
theorem qd84_119 : sq_in 84 119 (.lstore_n 1) 1 := by decide +kernel
theorem qd84_120 : sq_in 84 120 (.iconst 0) 1 := by decide +kernel
theorem qd84_121 : sq_in 84 121 (.istore_n 3) 1 := by decide +kernel
theorem qd84_122 : sq_in 84 122 (.iload_n 3) 1 := by decide +kernel
theorem qd84_123 : sq_in 84 123 (.iconst 4) 1 := by decide +kernel
theorem qd84_124 : sq_in 84 124 (.if_icmp .ge 24) 3 := by decide +kernel
theorem qd84_127 : sq_in 84 127 (.ldc2_w 225) 3 := by decide +kernel
theorem qd84_130 : sq_in 84 130 (.lload_n 1) 1 := by decide +kernel
theorem qd84_131 : sq_in 84 131 (.lmul) 1 := by decide +kernel
theorem qd84_132 : sq_in 84 132 (.aload_n 0) 1 := by decide +kernel
theorem qd84_133 : sq_in 84 133 (.bipush 10) 2 := by decide +kernel
theorem qd84_135 : sq_in 84 135 (.iload_n 3) 1 := by decide +kernel
theorem qd84_136 : sq_in 84 136 (.invokevirtual 248) 3 := by decide +kernel
theorem qd84_139 : sq_in 84 139 (.i2l) 1 := by decide +kernel
theorem qd84_140 : sq_in 84 140 (.ladd) 1 := by decide +kernel
theorem qd84_141 : sq_in 84 141 (.lstore_n 1) 1 := by decide +kernel
theorem qd84_142 : sq_in 84 142 (.iinc 3 1) 3 := by decide +kernel
theorem qd84_145 : sq_in 84 145 (.goto (-23)) 3 := by decide +kernel
theorem qd84_148 : sq_in 84 148 (.ldc2_w 225) 3 := by decide +kernel
theorem qd84_151 : sq_in 84 151 (.lload_n 1) 1 := by decide +kernel
theorem qd84_152 : sq_in 84 152 (.lmul) 1 := by decide +kernel
theorem qd84_153 : sq_in 84 153 (.aload_n 0) 1 := by decide +kernel
theorem qd84_154 : sq_in 84 154 (.invokevirtual 251) 3 := by decide +kernel
theorem qd84_157 : sq_in 84 157 (.invokestatic 255) 3 := by decide +kernel
theorem qd84_160 : sq_in 84 160 (.ladd) 1 := by decide +kernel
theorem qd84_161 : sq_in 84 161 (.lstore_n 1) 1 := by decide +kernel
theorem qd84_162 : sq_in 84 162 (.ldc2_w 225) 3 := by decide +kernel
theorem qd84_165 : sq_in 84 165 (.lload_n 1) 1 := by decide +kernel
theorem qd84_166 : sq_in 84 166 (.lmul) 1 := by decide +kernel
theorem qd84_167 : sq_in 84 167 (.aload_n 0) 1 := by decide +kernel
theorem qd84_168 : sq_in 84 168 (.invokevirtual 259) 3 := by decide +kernel
theorem qd84_171 : sq_in 84 171 (.invokestatic 263) 3 := by decide +kernel
theorem qd84_174 : sq_in 84 174 (.i2l) 1 := by decide +kernel
theorem qd84_175 : sq_in 84 175 (.ladd) 1 := by decide +kernel
theorem qd84_176 : sq_in 84 176 (.lstore_n 1) 1 := by decide +kernel
theorem qd84_177 : sq_in 84 177 (.ldc2_w 225) 3 := by decide +kernel
theorem qd84_180 : sq_in 84 180 (.lload_n 1) 1 := by decide +kernel
theorem qd84_181 : sq_in 84 181 (.lmul) 1 := by decide +kernel
theorem qd84_182 : sq_in 84 182 (.aload_n 0) 1 := by decide +kernel
theorem qd84_183 : sq_in 84 183 (.getfield 138) 3 := by decide +kernel
theorem qd84_186 : sq_in 84 186 (.ifCond .eq 7) 3 := by decide +kernel
theorem qd84_189 : sq_in 84 189 (.iconst 1) 1 := by decide +kernel
theorem qd84_190 : sq_in 84 190 (.goto 4) 3 := by decide +kernel
theorem qd84_193 : sq_in 84 193 (.iconst 0) 1 := by decide +kernel
theorem qd84_194 : sq_in 84 194 (.i2l) 1 := by decide +kernel
theorem qd84_195 : sq_in 84 195 (.ladd) 1 := by decide +kernel
theorem qd84_196 : sq_in 84 196 (.lstore_n 1) 1 := by decide +kernel
theorem qd84_197 : sq_in 84 197 (.aload_n 0) 1 := by decide +kernel
theorem qd84_198 : sq_in 84 198 (.lload_n 1) 1 := by decide +kernel
theorem qd84_199 : sq_in 84 199 (.invokevirtual 267) 3 := by decide +kernel
theorem qd84_202 : sq_in 84 202 (.lreturn) 1 := by decide +kernel
-- 85: SewingPiles.addSeamstresses(J)J
theorem qd85_0 : sq_in 85 0 (.lload_n 1) 1 := by decide +kernel
theorem qd85_1 : sq_in 85 1 (.lstore_n 3) 1 := by decide +kernel
theorem qd85_2 : sq_in 85 2 (.iconst 0) 1 := by decide +kernel
theorem qd85_3 : sq_in 85 3 (.istore 5) 2 := by decide +kernel
theorem qd85_5 : sq_in 85 5 (.iload 5) 2 := by decide +kernel
theorem qd85_7 : sq_in 85 7 (.aload_n 0) 1 := by decide +kernel
theorem qd85_8 : sq_in 85 8 (.getfield 10) 3 := by decide +kernel
theorem qd85_11 : sq_in 85 11 (.getfield 40) 3 := by decide +kernel
theorem qd85_14 : sq_in 85 14 (.if_icmp .ge 101) 3 := by decide +kernel
theorem qd85_17 : sq_in 85 17 (.iconst 0) 1 := by decide +kernel
theorem qd85_18 : sq_in 85 18 (.istore 6) 2 := by decide +kernel
theorem qd85_20 : sq_in 85 20 (.iload 6) 2 := by decide +kernel
theorem qd85_22 : sq_in 85 22 (.bipush 10) 2 := by decide +kernel
theorem qd85_24 : sq_in 85 24 (.if_icmp .ge 25) 3 := by decide +kernel
theorem qd85_27 : sq_in 85 27 (.ldc2_w 225) 3 := by decide +kernel
theorem qd85_30 : sq_in 85 30 (.lload_n 3) 1 := by decide +kernel
theorem qd85_31 : sq_in 85 31 (.lmul) 1 := by decide +kernel
theorem qd85_32 : sq_in 85 32 (.aload_n 0) 1 := by decide +kernel
theorem qd85_33 : sq_in 85 33 (.iload 5) 2 := by decide +kernel
theorem qd85_35 : sq_in 85 35 (.iload 6) 2 := by decide +kernel
theorem qd85_37 : sq_in 85 37 (.invokevirtual 270) 3 := by decide +kernel
theorem qd85_40 : sq_in 85 40 (.i2l) 1 := by decide +kernel
theorem qd85_41 : sq_in 85 41 (.ladd) 1 := by decide +kernel
theorem qd85_42 : sq_in 85 42 (.lstore_n 3) 1 := by decide +kernel
theorem qd85_43 : sq_in 85 43 (.iinc 6 1) 3 := by decide +kernel
theorem qd85_46 : sq_in 85 46 (.goto (-26)) 3 := by decide +kernel
theorem qd85_49 : sq_in 85 49 (.aload_n 0) 1 := by decide +kernel
theorem qd85_50 : sq_in 85 50 (.getfield 10) 3 := by decide +kernel
theorem qd85_53 : sq_in 85 53 (.getfield 162) 3 := by decide +kernel
theorem qd85_56 : sq_in 85 56 (.iload 5) 2 := by decide +kernel
theorem qd85_58 : sq_in 85 58 (.invokevirtual 273) 3 := by decide +kernel
theorem qd85_61 : sq_in 85 61 (.istore 6) 2 := by decide +kernel
theorem qd85_63 : sq_in 85 63 (.iconst 0) 1 := by decide +kernel
theorem qd85_64 : sq_in 85 64 (.istore 7) 2 := by decide +kernel
theorem qd85_66 : sq_in 85 66 (.iload 7) 2 := by decide +kernel
theorem qd85_68 : sq_in 85 68 (.iload 6) 2 := by decide +kernel
theorem qd85_70 : sq_in 85 70 (.if_icmp .ge 25) 3 := by decide +kernel
theorem qd85_73 : sq_in 85 73 (.ldc2_w 225) 3 := by decide +kernel
theorem qd85_76 : sq_in 85 76 (.lload_n 3) 1 := by decide +kernel
theorem qd85_77 : sq_in 85 77 (.lmul) 1 := by decide +kernel
theorem qd85_78 : sq_in 85 78 (.aload_n 0) 1 := by decide +kernel
theorem qd85_79 : sq_in 85 79 (.iload 5) 2 := by decide +kernel
theorem qd85_81 : sq_in 85 81 (.iload 7) 2 := by decide +kernel
theorem qd85_83 : sq_in 85 83 (.invokevirtual 276) 3 := by decide +kernel
theorem qd85_86 : sq_in 85 86 (.i2l) 1 := by decide +kernel
theorem qd85_87 : sq_in 85 87 (.ladd) 1 := by decide +kernel
theorem qd85_88 : sq_in 85 88 (.lstore_n 3) 1 := by decide +kernel
theorem qd85_89 : sq_in 85 89 (.iinc 7 1) 3 := by decide +kernel
theorem qd85_92 : sq_in 85 92 (.goto (-26)) 3 := by decide +kernel
theorem qd85_95 : sq_in 85 95 (.ldc2_w 225) 3 := by decide +kernel
theorem qd85_98 : sq_in 85 98 (.lload_n 3) 1 := by decide +kernel
theorem qd85_99 : sq_in 85 99 (.lmul) 1 := by decide +kernel
theorem qd85_100 : sq_in 85 100 (.aload_n 0) 1 := by decide +kernel
theorem qd85_101 : sq_in 85 101 (.iload 5) 2 := by decide +kernel
theorem qd85_103 : sq_in 85 103 (.invokevirtual 279) 3 := by decide +kernel
theorem qd85_106 : sq_in 85 106 (.i2l) 1 := by decide +kernel
theorem qd85_107 : sq_in 85 107 (.ladd) 1 := by decide +kernel
theorem qd85_108 : sq_in 85 108 (.lstore_n 3) 1 := by decide +kernel
theorem qd85_109 : sq_in 85 109 (.iinc 5 1) 3 := by decide +kernel
theorem qd85_112 : sq_in 85 112 (.goto (-107)) 3 := by decide +kernel
theorem qd85_115 : sq_in 85 115 (.lload_n 3) 1 := by decide +kernel
theorem qd85_116 : sq_in 85 116 (.lreturn) 1 := by decide +kernel
-- 86: SewingPiles.addShirts(J)J
theorem qd86_0 : sq_in 86 0 (.lload_n 1) 1 := by decide +kernel
theorem qd86_1 : sq_in 86 1 (.lstore_n 3) 1 := by decide +kernel
theorem qd86_2 : sq_in 86 2 (.iconst 0) 1 := by decide +kernel
theorem qd86_3 : sq_in 86 3 (.istore 5) 2 := by decide +kernel
theorem qd86_5 : sq_in 86 5 (.iload 5) 2 := by decide +kernel
theorem qd86_7 : sq_in 86 7 (.aload_n 0) 1 := by decide +kernel
theorem qd86_8 : sq_in 86 8 (.getfield 10) 3 := by decide +kernel
theorem qd86_11 : sq_in 86 11 (.getfield 171) 3 := by decide +kernel
theorem qd86_14 : sq_in 86 14 (.getfield 175) 3 := by decide +kernel
theorem qd86_17 : sq_in 86 17 (.if_icmp .ge 40) 3 := by decide +kernel
theorem qd86_20 : sq_in 86 20 (.iconst 0) 1 := by decide +kernel
theorem qd86_21 : sq_in 86 21 (.istore 6) 2 := by decide +kernel
theorem qd86_23 : sq_in 86 23 (.iload 6) 2 := by decide +kernel
theorem qd86_25 : sq_in 86 25 (.iconst 3) 1 := by decide +kernel
theorem qd86_26 : sq_in 86 26 (.if_icmp .ge 25) 3 := by decide +kernel
theorem qd86_29 : sq_in 86 29 (.ldc2_w 225) 3 := by decide +kernel
theorem qd86_32 : sq_in 86 32 (.lload_n 3) 1 := by decide +kernel
theorem qd86_33 : sq_in 86 33 (.lmul) 1 := by decide +kernel
theorem qd86_34 : sq_in 86 34 (.aload_n 0) 1 := by decide +kernel
theorem qd86_35 : sq_in 86 35 (.iload 5) 2 := by decide +kernel
theorem qd86_37 : sq_in 86 37 (.iload 6) 2 := by decide +kernel
theorem qd86_39 : sq_in 86 39 (.invokevirtual 282) 3 := by decide +kernel
theorem qd86_42 : sq_in 86 42 (.i2l) 1 := by decide +kernel
theorem qd86_43 : sq_in 86 43 (.ladd) 1 := by decide +kernel
theorem qd86_44 : sq_in 86 44 (.lstore_n 3) 1 := by decide +kernel
theorem qd86_45 : sq_in 86 45 (.iinc 6 1) 3 := by decide +kernel
theorem qd86_48 : sq_in 86 48 (.goto (-25)) 3 := by decide +kernel
theorem qd86_51 : sq_in 86 51 (.iinc 5 1) 3 := by decide +kernel
theorem qd86_54 : sq_in 86 54 (.goto (-49)) 3 := by decide +kernel
theorem qd86_57 : sq_in 86 57 (.lload_n 3) 1 := by decide +kernel
theorem qd86_58 : sq_in 86 58 (.lreturn) 1 := by decide +kernel
-- 87: SewingPiles.addText(J)J
theorem qd87_0 : sq_in 87 0 (.ldc2_w 225) 3 := by decide +kernel
theorem qd87_3 : sq_in 87 3 (.lload_n 1) 1 := by decide +kernel
theorem qd87_4 : sq_in 87 4 (.lmul) 1 := by decide +kernel
theorem qd87_5 : sq_in 87 5 (.aload_n 0) 1 := by decide +kernel
theorem qd87_6 : sq_in 87 6 (.getfield 32) 3 := by decide +kernel
theorem qd87_9 : sq_in 87 9 (.getfield 109) 3 := by decide +kernel
theorem qd87_12 : sq_in 87 12 (.i2l) 1 := by decide +kernel
theorem qd87_13 : sq_in 87 13 (.ladd) 1 := by decide +kernel
theorem qd87_14 : sq_in 87 14 (.lstore_n 3) 1 := by decide +kernel
theorem qd87_15 : sq_in 87 15 (.iconst 0) 1 := by decide +kernel
theorem qd87_16 : sq_in 87 16 (.istore 5) 2 := by decide +kernel
theorem qd87_18 : sq_in 87 18 (.iload 5) 2 := by decide +kernel
theorem qd87_20 : sq_in 87 20 (.aload_n 0) 1 := by decide +kernel
theorem qd87_21 : sq_in 87 21 (.getfield 32) 3 := by decide +kernel
theorem qd87_24 : sq_in 87 24 (.getfield 109) 3 := by decide +kernel
theorem qd87_27 : sq_in 87 27 (.if_icmp .ge 26) 3 := by decide +kernel
theorem qd87_30 : sq_in 87 30 (.ldc2_w 225) 3 := by decide +kernel
theorem qd87_33 : sq_in 87 33 (.lload_n 3) 1 := by decide +kernel
theorem qd87_34 : sq_in 87 34 (.lmul) 1 := by decide +kernel
theorem qd87_35 : sq_in 87 35 (.aload_n 0) 1 := by decide +kernel
theorem qd87_36 : sq_in 87 36 (.getfield 32) 3 := by decide +kernel
theorem qd87_39 : sq_in 87 39 (.iload 5) 2 := by decide +kernel
theorem qd87_41 : sq_in 87 41 (.invokevirtual 285) 3 := by decide +kernel
theorem qd87_44 : sq_in 87 44 (.i2l) 1 := by decide +kernel
theorem qd87_45 : sq_in 87 45 (.ladd) 1 := by decide +kernel
theorem qd87_46 : sq_in 87 46 (.lstore_n 3) 1 := by decide +kernel
theorem qd87_47 : sq_in 87 47 (.iinc 5 1) 3 := by decide +kernel
theorem qd87_50 : sq_in 87 50 (.goto (-32)) 3 := by decide +kernel
theorem qd87_53 : sq_in 87 53 (.lload_n 3) 1 := by decide +kernel
theorem qd87_54 : sq_in 87 54 (.lreturn) 1 := by decide +kernel
-- 88: SewingPiles.bitsOfDouble(D)J
theorem qd88_0 : sq_in 88 0 (.dload_n 0) 1 := by decide +kernel
theorem qd88_1 : sq_in 88 1 (.dconst 0) 1 := by decide +kernel
theorem qd88_2 : sq_in 88 2 (.dcmp .l) 1 := by decide +kernel
theorem qd88_3 : sq_in 88 3 (.ifCond .gt 5) 3 := by decide +kernel
theorem qd88_6 : sq_in 88 6 (.lconst 0) 1 := by decide +kernel
theorem qd88_7 : sq_in 88 7 (.lreturn) 1 := by decide +kernel
theorem qd88_8 : sq_in 88 8 (.dload_n 0) 1 := by decide +kernel
theorem qd88_9 : sq_in 88 9 (.dstore_n 2) 1 := by decide +kernel
theorem qd88_10 : sq_in 88 10 (.sipush 1023) 3 := by decide +kernel
theorem qd88_13 : sq_in 88 13 (.istore 4) 2 := by decide +kernel
theorem qd88_15 : sq_in 88 15 (.dload_n 2) 1 := by decide +kernel
theorem qd88_16 : sq_in 88 16 (.dconst 1) 1 := by decide +kernel
theorem qd88_17 : sq_in 88 17 (.dcmp .g) 1 := by decide +kernel
theorem qd88_18 : sq_in 88 18 (.ifCond .ge 21) 3 := by decide +kernel
theorem qd88_21 : sq_in 88 21 (.iload 4) 2 := by decide +kernel
theorem qd88_23 : sq_in 88 23 (.iconst 1) 1 := by decide +kernel
theorem qd88_24 : sq_in 88 24 (.if_icmp .le 15) 3 := by decide +kernel
theorem qd88_27 : sq_in 88 27 (.dload_n 2) 1 := by decide +kernel
theorem qd88_28 : sq_in 88 28 (.ldc2_w 288) 3 := by decide +kernel
theorem qd88_31 : sq_in 88 31 (.dmul) 1 := by decide +kernel
theorem qd88_32 : sq_in 88 32 (.dstore_n 2) 1 := by decide +kernel
theorem qd88_33 : sq_in 88 33 (.iinc 4 (-1)) 3 := by decide +kernel
theorem qd88_36 : sq_in 88 36 (.goto (-21)) 3 := by decide +kernel
theorem qd88_39 : sq_in 88 39 (.dload_n 2) 1 := by decide +kernel
theorem qd88_40 : sq_in 88 40 (.dconst 1) 1 := by decide +kernel
theorem qd88_41 : sq_in 88 41 (.dsub) 1 := by decide +kernel
theorem qd88_42 : sq_in 88 42 (.ldc2_w 290) 3 := by decide +kernel
theorem qd88_45 : sq_in 88 45 (.dmul) 1 := by decide +kernel
theorem qd88_46 : sq_in 88 46 (.d2l) 1 := by decide +kernel
theorem qd88_47 : sq_in 88 47 (.lstore 5) 2 := by decide +kernel
theorem qd88_49 : sq_in 88 49 (.iload 4) 2 := by decide +kernel
theorem qd88_51 : sq_in 88 51 (.i2l) 1 := by decide +kernel
theorem qd88_52 : sq_in 88 52 (.bipush 52) 2 := by decide +kernel
theorem qd88_54 : sq_in 88 54 (.lshl) 1 := by decide +kernel
theorem qd88_55 : sq_in 88 55 (.lload 5) 2 := by decide +kernel
theorem qd88_57 : sq_in 88 57 (.ladd) 1 := by decide +kernel
theorem qd88_58 : sq_in 88 58 (.lreturn) 1 := by decide +kernel
-- 89: SewingPiles.bitsOfFloat(F)I
theorem qd89_0 : sq_in 89 0 (.fload_n 0) 1 := by decide +kernel
theorem qd89_1 : sq_in 89 1 (.fconst 0) 1 := by decide +kernel
theorem qd89_2 : sq_in 89 2 (.fcmp .l) 1 := by decide +kernel
theorem qd89_3 : sq_in 89 3 (.ifCond .gt 5) 3 := by decide +kernel
theorem qd89_6 : sq_in 89 6 (.iconst 0) 1 := by decide +kernel
theorem qd89_7 : sq_in 89 7 (.ireturn) 1 := by decide +kernel
theorem qd89_8 : sq_in 89 8 (.fload_n 0) 1 := by decide +kernel
theorem qd89_9 : sq_in 89 9 (.fstore_n 1) 1 := by decide +kernel
theorem qd89_10 : sq_in 89 10 (.bipush 127) 2 := by decide +kernel
theorem qd89_12 : sq_in 89 12 (.istore_n 2) 1 := by decide +kernel
theorem qd89_13 : sq_in 89 13 (.fload_n 1) 1 := by decide +kernel
theorem qd89_14 : sq_in 89 14 (.fconst 1) 1 := by decide +kernel
theorem qd89_15 : sq_in 89 15 (.fcmp .g) 1 := by decide +kernel
theorem qd89_16 : sq_in 89 16 (.ifCond .ge 18) 3 := by decide +kernel
theorem qd89_19 : sq_in 89 19 (.iload_n 2) 1 := by decide +kernel
theorem qd89_20 : sq_in 89 20 (.iconst 1) 1 := by decide +kernel
theorem qd89_21 : sq_in 89 21 (.if_icmp .le 13) 3 := by decide +kernel
theorem qd89_24 : sq_in 89 24 (.fload_n 1) 1 := by decide +kernel
theorem qd89_25 : sq_in 89 25 (.fconst 2) 1 := by decide +kernel
theorem qd89_26 : sq_in 89 26 (.fmul) 1 := by decide +kernel
theorem qd89_27 : sq_in 89 27 (.fstore_n 1) 1 := by decide +kernel
theorem qd89_28 : sq_in 89 28 (.iinc 2 (-1)) 3 := by decide +kernel
theorem qd89_31 : sq_in 89 31 (.goto (-18)) 3 := by decide +kernel
theorem qd89_34 : sq_in 89 34 (.fload_n 1) 1 := by decide +kernel
theorem qd89_35 : sq_in 89 35 (.fconst 1) 1 := by decide +kernel
theorem qd89_36 : sq_in 89 36 (.fsub) 1 := by decide +kernel
theorem qd89_37 : sq_in 89 37 (.ldc_w 292) 3 := by decide +kernel
theorem qd89_40 : sq_in 89 40 (.fmul) 1 := by decide +kernel
theorem qd89_41 : sq_in 89 41 (.f2i) 1 := by decide +kernel
theorem qd89_42 : sq_in 89 42 (.istore_n 3) 1 := by decide +kernel
theorem qd89_43 : sq_in 89 43 (.iload_n 2) 1 := by decide +kernel
theorem qd89_44 : sq_in 89 44 (.bipush 23) 2 := by decide +kernel
theorem qd89_46 : sq_in 89 46 (.ishl) 1 := by decide +kernel
theorem qd89_47 : sq_in 89 47 (.iload_n 3) 1 := by decide +kernel
theorem qd89_48 : sq_in 89 48 (.iadd) 1 := by decide +kernel
theorem qd89_49 : sq_in 89 49 (.ireturn) 1 := by decide +kernel
-- 90: SewingPiles.checkSeamstress(I)V
theorem qd90_0 : sq_in 90 0 (.aload_n 0) 1 := by decide +kernel
theorem qd90_1 : sq_in 90 1 (.getfield 10) 3 := by decide +kernel
theorem qd90_4 : sq_in 90 4 (.iload_n 1) 1 := by decide +kernel
theorem qd90_5 : sq_in 90 5 (.invokevirtual 293) 3 := by decide +kernel
theorem qd90_8 : sq_in 90 8 (.ifCond .ne 14) 3 := by decide +kernel
theorem qd90_22 : sq_in 90 22 (.return_) 1 := by decide +kernel
-- 91: SewingPiles.checkSpeed(I)V
theorem qd91_0 : sq_in 91 0 (.iload_n 0) 1 := by decide +kernel
theorem qd91_1 : sq_in 91 1 (.iconst 1) 1 := by decide +kernel
theorem qd91_2 : sq_in 91 2 (.if_icmp .lt 9) 3 := by decide +kernel
theorem qd91_5 : sq_in 91 5 (.iload_n 0) 1 := by decide +kernel
theorem qd91_6 : sq_in 91 6 (.bipush 9) 2 := by decide +kernel
theorem qd91_8 : sq_in 91 8 (.if_icmp .le 14) 3 := by decide +kernel
theorem qd91_22 : sq_in 91 22 (.return_) 1 := by decide +kernel
-- 92: SewingPiles.checkSetting(I)V
theorem qd92_0 : sq_in 92 0 (.iload_n 0) 1 := by decide +kernel
theorem qd92_1 : sq_in 92 1 (.ifCond .lt 8) 3 := by decide +kernel
theorem qd92_4 : sq_in 92 4 (.iload_n 0) 1 := by decide +kernel
theorem qd92_5 : sq_in 92 5 (.iconst 3) 1 := by decide +kernel
theorem qd92_6 : sq_in 92 6 (.if_icmp .lt 14) 3 := by decide +kernel
theorem qd92_20 : sq_in 92 20 (.return_) 1 := by decide +kernel
-- 93: SewingPiles.doPart(I)Z
theorem qd93_0 : sq_in 93 0 (.aload_n 0) 1 := by decide +kernel
theorem qd93_1 : sq_in 93 1 (.getfield 32) 3 := by decide +kernel
theorem qd93_4 : sq_in 93 4 (.iload_n 1) 1 := by decide +kernel
theorem qd93_5 : sq_in 93 5 (.invokevirtual 285) 3 := by decide +kernel
theorem qd93_8 : sq_in 93 8 (.istore_n 2) 1 := by decide +kernel
theorem qd93_9 : sq_in 93 9 (.iload_n 2) 1 := by decide +kernel
theorem qd93_10 : sq_in 93 10 (.bipush 109) 2 := by decide +kernel
theorem qd93_12 : sq_in 93 12 (.if_icmp .ne 22) 3 := by decide +kernel
theorem qd93_15 : sq_in 93 15 (.aload_n 0) 1 := by decide +kernel
theorem qd93_16 : sq_in 93 16 (.getfield 10) 3 := by decide +kernel
theorem qd93_19 : sq_in 93 19 (.aload_n 0) 1 := by decide +kernel
theorem qd93_20 : sq_in 93 20 (.getfield 32) 3 := by decide +kernel
theorem qd93_23 : sq_in 93 23 (.iload_n 1) 1 := by decide +kernel
theorem qd93_24 : sq_in 93 24 (.iconst 1) 1 := by decide +kernel
theorem qd93_25 : sq_in 93 25 (.iadd) 1 := by decide +kernel
theorem qd93_26 : sq_in 93 26 (.invokevirtual 302) 3 := by decide +kernel
theorem qd93_29 : sq_in 93 29 (.invokevirtual 89) 3 := by decide +kernel
theorem qd93_32 : sq_in 93 32 (.iconst 1) 1 := by decide +kernel
theorem qd93_33 : sq_in 93 33 (.ireturn) 1 := by decide +kernel
theorem qd93_34 : sq_in 93 34 (.aload_n 0) 1 := by decide +kernel
theorem qd93_35 : sq_in 93 35 (.getfield 32) 3 := by decide +kernel
theorem qd93_38 : sq_in 93 38 (.iload_n 1) 1 := by decide +kernel
theorem qd93_39 : sq_in 93 39 (.iconst 1) 1 := by decide +kernel
theorem qd93_40 : sq_in 93 40 (.iadd) 1 := by decide +kernel
theorem qd93_41 : sq_in 93 41 (.invokevirtual 285) 3 := by decide +kernel
theorem qd93_44 : sq_in 93 44 (.bipush 48) 2 := by decide +kernel
theorem qd93_46 : sq_in 93 46 (.isub) 1 := by decide +kernel
theorem qd93_47 : sq_in 93 47 (.istore_n 3) 1 := by decide +kernel
theorem qd93_48 : sq_in 93 48 (.aload_n 0) 1 := by decide +kernel
theorem qd93_49 : sq_in 93 49 (.getfield 10) 3 := by decide +kernel
theorem qd93_52 : sq_in 93 52 (.iload_n 3) 1 := by decide +kernel
theorem qd93_53 : sq_in 93 53 (.invokevirtual 293) 3 := by decide +kernel
theorem qd93_56 : sq_in 93 56 (.ifCond .ne 5) 3 := by decide +kernel
theorem qd93_59 : sq_in 93 59 (.iconst 0) 1 := by decide +kernel
theorem qd93_60 : sq_in 93 60 (.ireturn) 1 := by decide +kernel
theorem qd93_61 : sq_in 93 61 (.iload_n 2) 1 := by decide +kernel
theorem qd93_62 : sq_in 93 62 (.bipush 119) 2 := by decide +kernel
theorem qd93_64 : sq_in 93 64 (.if_icmp .ne 14) 3 := by decide +kernel
theorem qd93_67 : sq_in 93 67 (.aload_n 0) 1 := by decide +kernel
theorem qd93_68 : sq_in 93 68 (.getfield 10) 3 := by decide +kernel
theorem qd93_71 : sq_in 93 71 (.iload_n 3) 1 := by decide +kernel
theorem qd93_72 : sq_in 93 72 (.invokevirtual 80) 3 := by decide +kernel
theorem qd93_75 : sq_in 93 75 (.pop) 1 := by decide +kernel
theorem qd93_76 : sq_in 93 76 (.iconst 1) 1 := by decide +kernel
theorem qd93_77 : sq_in 93 77 (.ireturn) 1 := by decide +kernel
theorem qd93_78 : sq_in 93 78 (.iload_n 2) 1 := by decide +kernel
theorem qd93_79 : sq_in 93 79 (.bipush 118) 2 := by decide +kernel
theorem qd93_81 : sq_in 93 81 (.if_icmp .ne 24) 3 := by decide +kernel
theorem qd93_84 : sq_in 93 84 (.aload_n 0) 1 := by decide +kernel
theorem qd93_85 : sq_in 93 85 (.getfield 10) 3 := by decide +kernel
theorem qd93_88 : sq_in 93 88 (.iload_n 3) 1 := by decide +kernel
theorem qd93_89 : sq_in 93 89 (.aload_n 0) 1 := by decide +kernel
theorem qd93_90 : sq_in 93 90 (.getfield 32) 3 := by decide +kernel
theorem qd93_93 : sq_in 93 93 (.iload_n 1) 1 := by decide +kernel
theorem qd93_94 : sq_in 93 94 (.iconst 2) 1 := by decide +kernel
theorem qd93_95 : sq_in 93 95 (.iadd) 1 := by decide +kernel
theorem qd93_96 : sq_in 93 96 (.invokevirtual 302) 3 := by decide +kernel
theorem qd93_99 : sq_in 93 99 (.invokevirtual 62) 3 := by decide +kernel
theorem qd93_102 : sq_in 93 102 (.pop) 1 := by decide +kernel
theorem qd93_103 : sq_in 93 103 (.iconst 1) 1 := by decide +kernel
theorem qd93_104 : sq_in 93 104 (.ireturn) 1 := by decide +kernel
theorem qd93_105 : sq_in 93 105 (.aload_n 0) 1 := by decide +kernel
theorem qd93_106 : sq_in 93 106 (.getfield 10) 3 := by decide +kernel
theorem qd93_109 : sq_in 93 109 (.iload_n 3) 1 := by decide +kernel
theorem qd93_110 : sq_in 93 110 (.invokevirtual 71) 3 := by decide +kernel
theorem qd93_113 : sq_in 93 113 (.ifCond .ne 5) 3 := by decide +kernel
theorem qd93_116 : sq_in 93 116 (.iconst 0) 1 := by decide +kernel
theorem qd93_117 : sq_in 93 117 (.ireturn) 1 := by decide +kernel
theorem qd93_118 : sq_in 93 118 (.aload_n 0) 1 := by decide +kernel
theorem qd93_119 : sq_in 93 119 (.getfield 10) 3 := by decide +kernel
theorem qd93_122 : sq_in 93 122 (.iload_n 3) 1 := by decide +kernel
theorem qd93_123 : sq_in 93 123 (.aload_n 0) 1 := by decide +kernel
theorem qd93_124 : sq_in 93 124 (.getfield 32) 3 := by decide +kernel
theorem qd93_127 : sq_in 93 127 (.iload_n 1) 1 := by decide +kernel
theorem qd93_128 : sq_in 93 128 (.iconst 3) 1 := by decide +kernel
theorem qd93_129 : sq_in 93 129 (.iadd) 1 := by decide +kernel
theorem qd93_130 : sq_in 93 130 (.invokevirtual 302) 3 := by decide +kernel
theorem qd93_133 : sq_in 93 133 (.invokevirtual 77) 3 := by decide +kernel
theorem qd93_136 : sq_in 93 136 (.pop) 1 := by decide +kernel
theorem qd93_137 : sq_in 93 137 (.iconst 1) 1 := by decide +kernel
theorem qd93_138 : sq_in 93 138 (.ireturn) 1 := by decide +kernel
end
section
/-! ===== the instruction at each place ===== -/
-- 94: SewingPilesModel.<init>()V
theorem qd94_0 : sq_in 94 0 (.aload_n 0) 1 := by decide +kernel
theorem qd94_1 : sq_in 94 1 (.invokespecial 1) 3 := by decide +kernel
theorem qd94_4 : sq_in 94 4 (.aload_n 0) 1 := by decide +kernel
theorem qd94_5 : sq_in 94 5 (.sipush 543) 3 := by decide +kernel
theorem qd94_8 : sq_in 94 8 (.newarray .int) 2 := by decide +kernel
theorem qd94_10 : sq_in 94 10 (.putfield 7) 3 := by decide +kernel
theorem qd94_13 : sq_in 94 13 (.aload_n 0) 1 := by decide +kernel
theorem qd94_14 : sq_in 94 14 (.sipush 543) 3 := by decide +kernel
theorem qd94_17 : sq_in 94 17 (.newarray .int) 2 := by decide +kernel
theorem qd94_19 : sq_in 94 19 (.putfield 13) 3 := by decide +kernel
theorem qd94_22 : sq_in 94 22 (.aload_n 0) 1 := by decide +kernel
theorem qd94_23 : sq_in 94 23 (.sipush 3258) 3 := by decide +kernel
theorem qd94_26 : sq_in 94 26 (.newarray .int) 2 := by decide +kernel
theorem qd94_28 : sq_in 94 28 (.putfield 16) 3 := by decide +kernel
theorem qd94_31 : sq_in 94 31 (.aload_n 0) 1 := by decide +kernel
theorem qd94_32 : sq_in 94 32 (.sipush 543) 3 := by decide +kernel
theorem qd94_35 : sq_in 94 35 (.newarray .int) 2 := by decide +kernel
theorem qd94_37 : sq_in 94 37 (.putfield 19) 3 := by decide +kernel
theorem qd94_40 : sq_in 94 40 (.aload_n 0) 1 := by decide +kernel
theorem qd94_41 : sq_in 94 41 (.bipush 60) 2 := by decide +kernel
theorem qd94_43 : sq_in 94 43 (.newarray .int) 2 := by decide +kernel
theorem qd94_45 : sq_in 94 45 (.putfield 22) 3 := by decide +kernel
theorem qd94_48 : sq_in 94 48 (.aload_n 0) 1 := by decide +kernel
theorem qd94_49 : sq_in 94 49 (.bipush 100) 2 := by decide +kernel
theorem qd94_51 : sq_in 94 51 (.newarray .int) 2 := by decide +kernel
theorem qd94_53 : sq_in 94 53 (.putfield 25) 3 := by decide +kernel
theorem qd94_56 : sq_in 94 56 (.aload_n 0) 1 := by decide +kernel
theorem qd94_57 : sq_in 94 57 (.iconst 0) 1 := by decide +kernel
theorem qd94_58 : sq_in 94 58 (.putfield 28) 3 := by decide +kernel
theorem qd94_61 : sq_in 94 61 (.aload_n 0) 1 := by decide +kernel
theorem qd94_62 : sq_in 94 62 (.getfield 7) 3 := by decide +kernel
theorem qd94_65 : sq_in 94 65 (.iconst 0) 1 := by decide +kernel
theorem qd94_66 : sq_in 94 66 (.bipush 20) 2 := by decide +kernel
theorem qd94_68 : sq_in 94 68 (.iastore) 1 := by decide +kernel
theorem qd94_69 : sq_in 94 69 (.aload_n 0) 1 := by decide +kernel
theorem qd94_70 : sq_in 94 70 (.getfield 7) 3 := by decide +kernel
theorem qd94_73 : sq_in 94 73 (.iconst 2) 1 := by decide +kernel
theorem qd94_74 : sq_in 94 74 (.iconst 3) 1 := by decide +kernel
theorem qd94_75 : sq_in 94 75 (.iastore) 1 := by decide +kernel
theorem qd94_76 : sq_in 94 76 (.aload_n 0) 1 := by decide +kernel
theorem qd94_77 : sq_in 94 77 (.getfield 7) 3 := by decide +kernel
theorem qd94_80 : sq_in 94 80 (.iconst 4) 1 := by decide +kernel
theorem qd94_81 : sq_in 94 81 (.iconst 2) 1 := by decide +kernel
theorem qd94_82 : sq_in 94 82 (.iastore) 1 := by decide +kernel
theorem qd94_83 : sq_in 94 83 (.aload_n 0) 1 := by decide +kernel
theorem qd94_84 : sq_in 94 84 (.iconst 0) 1 := by decide +kernel
theorem qd94_85 : sq_in 94 85 (.iconst 0) 1 := by decide +kernel
theorem qd94_86 : sq_in 94 86 (.iconst 1) 1 := by decide +kernel
theorem qd94_87 : sq_in 94 87 (.invokevirtual 32) 3 := by decide +kernel
theorem qd94_90 : sq_in 94 90 (.aload_n 0) 1 := by decide +kernel
theorem qd94_91 : sq_in 94 91 (.iconst 1) 1 := by decide +kernel
theorem qd94_92 : sq_in 94 92 (.iconst 0) 1 := by decide +kernel
theorem qd94_93 : sq_in 94 93 (.iconst 1) 1 := by decide +kernel
theorem qd94_94 : sq_in 94 94 (.invokevirtual 32) 3 := by decide +kernel
theorem qd94_97 : sq_in 94 97 (.return_) 1 := by decide +kernel
-- 95: SewingPilesModel.thrown()I
theorem qd95_0 : sq_in 95 0 (.aload_n 0) 1 := by decide +kernel
theorem qd95_1 : sq_in 95 1 (.getfield 28) 3 := by decide +kernel
theorem qd95_4 : sq_in 95 4 (.ireturn) 1 := by decide +kernel
-- 96: SewingPilesModel.in(III)Z
theorem qd96_0 : sq_in 96 0 (.iload_n 0) 1 := by decide +kernel
theorem qd96_1 : sq_in 96 1 (.iload_n 1) 1 := by decide +kernel
theorem qd96_2 : sq_in 96 2 (.if_icmp .lt 12) 3 := by decide +kernel
theorem qd96_5 : sq_in 96 5 (.iload_n 0) 1 := by decide +kernel
theorem qd96_6 : sq_in 96 6 (.iload_n 2) 1 := by decide +kernel
theorem qd96_7 : sq_in 96 7 (.if_icmp .gt 7) 3 := by decide +kernel
theorem qd96_10 : sq_in 96 10 (.iconst 1) 1 := by decide +kernel
theorem qd96_11 : sq_in 96 11 (.goto 4) 3 := by decide +kernel
theorem qd96_14 : sq_in 96 14 (.iconst 0) 1 := by decide +kernel
theorem qd96_15 : sq_in 96 15 (.ireturn) 1 := by decide +kernel
-- 97: SewingPilesModel.fails(I)I
theorem qd97_0 : sq_in 97 0 (.aload_n 0) 1 := by decide +kernel
theorem qd97_1 : sq_in 97 1 (.iload_n 1) 1 := by decide +kernel
theorem qd97_2 : sq_in 97 2 (.putfield 28) 3 := by decide +kernel
theorem qd97_5 : sq_in 97 5 (.iconst 0) 1 := by decide +kernel
theorem qd97_6 : sq_in 97 6 (.ireturn) 1 := by decide +kernel
-- 98: SewingPilesModel.of(II)I
theorem qd98_0 : sq_in 98 0 (.aload_n 0) 1 := by decide +kernel
theorem qd98_1 : sq_in 98 1 (.getfield 7) 3 := by decide +kernel
theorem qd98_4 : sq_in 98 4 (.bipush 8) 2 := by decide +kernel
theorem qd98_6 : sq_in 98 6 (.bipush 9) 2 := by decide +kernel
theorem qd98_8 : sq_in 98 8 (.iload_n 1) 1 := by decide +kernel
theorem qd98_9 : sq_in 98 9 (.imul) 1 := by decide +kernel
theorem qd98_10 : sq_in 98 10 (.iadd) 1 := by decide +kernel
theorem qd98_11 : sq_in 98 11 (.iload_n 2) 1 := by decide +kernel
theorem qd98_12 : sq_in 98 12 (.iadd) 1 := by decide +kernel
theorem qd98_13 : sq_in 98 13 (.iaload) 1 := by decide +kernel
theorem qd98_14 : sq_in 98 14 (.ireturn) 1 := by decide +kernel
-- 99: SewingPilesModel.lays(III)V
theorem qd99_0 : sq_in 99 0 (.aload_n 0) 1 := by decide +kernel
theorem qd99_1 : sq_in 99 1 (.getfield 7) 3 := by decide +kernel
theorem qd99_4 : sq_in 99 4 (.bipush 8) 2 := by decide +kernel
theorem qd99_6 : sq_in 99 6 (.bipush 9) 2 := by decide +kernel
theorem qd99_8 : sq_in 99 8 (.iload_n 1) 1 := by decide +kernel
theorem qd99_9 : sq_in 99 9 (.imul) 1 := by decide +kernel
theorem qd99_10 : sq_in 99 10 (.iadd) 1 := by decide +kernel
theorem qd99_11 : sq_in 99 11 (.iload_n 2) 1 := by decide +kernel
theorem qd99_12 : sq_in 99 12 (.iadd) 1 := by decide +kernel
theorem qd99_13 : sq_in 99 13 (.iload_n 3) 1 := by decide +kernel
theorem qd99_14 : sq_in 99 14 (.iastore) 1 := by decide +kernel
theorem qd99_15 : sq_in 99 15 (.return_) 1 := by decide +kernel
-- 100: SewingPilesModel.grows(II)V
theorem qd100_0 : sq_in 100 0 (.aload_n 0) 1 := by decide +kernel
theorem qd100_1 : sq_in 100 1 (.getfield 7) 3 := by decide +kernel
theorem qd100_4 : sq_in 100 4 (.bipush 8) 2 := by decide +kernel
theorem qd100_6 : sq_in 100 6 (.bipush 9) 2 := by decide +kernel
theorem qd100_8 : sq_in 100 8 (.iload_n 1) 1 := by decide +kernel
theorem qd100_9 : sq_in 100 9 (.imul) 1 := by decide +kernel
theorem qd100_10 : sq_in 100 10 (.iadd) 1 := by decide +kernel
theorem qd100_11 : sq_in 100 11 (.iload_n 2) 1 := by decide +kernel
theorem qd100_12 : sq_in 100 12 (.iadd) 1 := by decide +kernel
theorem qd100_13 : sq_in 100 13 (.dup2) 1 := by decide +kernel
theorem qd100_14 : sq_in 100 14 (.iaload) 1 := by decide +kernel
theorem qd100_15 : sq_in 100 15 (.iconst 1) 1 := by decide +kernel
theorem qd100_16 : sq_in 100 16 (.iadd) 1 := by decide +kernel
theorem qd100_17 : sq_in 100 17 (.iastore) 1 := by decide +kernel
theorem qd100_18 : sq_in 100 18 (.return_) 1 := by decide +kernel
-- 101: SewingPilesModel.onPile(II)I
theorem qd101_0 : sq_in 101 0 (.aload_n 0) 1 := by decide +kernel
theorem qd101_1 : sq_in 101 1 (.getfield 7) 3 := by decide +kernel
theorem qd101_4 : sq_in 101 4 (.bipush 71) 2 := by decide +kernel
theorem qd101_6 : sq_in 101 6 (.bipush 16) 2 := by decide +kernel
theorem qd101_8 : sq_in 101 8 (.iload_n 1) 1 := by decide +kernel
theorem qd101_9 : sq_in 101 9 (.imul) 1 := by decide +kernel
theorem qd101_10 : sq_in 101 10 (.iadd) 1 := by decide +kernel
theorem qd101_11 : sq_in 101 11 (.iload_n 2) 1 := by decide +kernel
theorem qd101_12 : sq_in 101 12 (.iadd) 1 := by decide +kernel
theorem qd101_13 : sq_in 101 13 (.iaload) 1 := by decide +kernel
theorem qd101_14 : sq_in 101 14 (.ireturn) 1 := by decide +kernel
-- 102: SewingPilesModel.ofShirt(II)I
theorem qd102_0 : sq_in 102 0 (.aload_n 0) 1 := by decide +kernel
theorem qd102_1 : sq_in 102 1 (.getfield 7) 3 := by decide +kernel
theorem qd102_4 : sq_in 102 4 (.sipush 183) 3 := by decide +kernel
theorem qd102_7 : sq_in 102 7 (.iconst 3) 1 := by decide +kernel
theorem qd102_8 : sq_in 102 8 (.iload_n 1) 1 := by decide +kernel
theorem qd102_9 : sq_in 102 9 (.imul) 1 := by decide +kernel
theorem qd102_10 : sq_in 102 10 (.iadd) 1 := by decide +kernel
theorem qd102_11 : sq_in 102 11 (.iload_n 2) 1 := by decide +kernel
theorem qd102_12 : sq_in 102 12 (.iadd) 1 := by decide +kernel
theorem qd102_13 : sq_in 102 13 (.iaload) 1 := by decide +kernel
theorem qd102_14 : sq_in 102 14 (.ireturn) 1 := by decide +kernel
-- 103: SewingPilesModel.layShirt(III)V
theorem qd103_0 : sq_in 103 0 (.aload_n 0) 1 := by decide +kernel
theorem qd103_1 : sq_in 103 1 (.getfield 7) 3 := by decide +kernel
theorem qd103_4 : sq_in 103 4 (.sipush 183) 3 := by decide +kernel
theorem qd103_7 : sq_in 103 7 (.iconst 3) 1 := by decide +kernel
theorem qd103_8 : sq_in 103 8 (.iload_n 1) 1 := by decide +kernel
theorem qd103_9 : sq_in 103 9 (.imul) 1 := by decide +kernel
theorem qd103_10 : sq_in 103 10 (.iadd) 1 := by decide +kernel
theorem qd103_11 : sq_in 103 11 (.iload_n 2) 1 := by decide +kernel
theorem qd103_12 : sq_in 103 12 (.iadd) 1 := by decide +kernel
theorem qd103_13 : sq_in 103 13 (.iload_n 3) 1 := by decide +kernel
theorem qd103_14 : sq_in 103 14 (.iastore) 1 := by decide +kernel
theorem qd103_15 : sq_in 103 15 (.return_) 1 := by decide +kernel
-- 104: SewingPilesModel.isWho(I)Z
theorem qd104_0 : sq_in 104 0 (.iload_n 1) 1 := by decide +kernel
theorem qd104_1 : sq_in 104 1 (.iconst 0) 1 := by decide +kernel
theorem qd104_2 : sq_in 104 2 (.aload_n 0) 1 := by decide +kernel
theorem qd104_3 : sq_in 104 3 (.getfield 7) 3 := by decide +kernel
theorem qd104_6 : sq_in 104 6 (.iconst 4) 1 := by decide +kernel
theorem qd104_7 : sq_in 104 7 (.iaload) 1 := by decide +kernel
theorem qd104_8 : sq_in 104 8 (.iconst 1) 1 := by decide +kernel
theorem qd104_9 : sq_in 104 9 (.isub) 1 := by decide +kernel
theorem qd104_10 : sq_in 104 10 (.invokestatic 36) 3 := by decide +kernel
theorem qd104_13 : sq_in 104 13 (.ireturn) 1 := by decide +kernel
-- 105: SewingPilesModel.saves()V
theorem qd105_0 : sq_in 105 0 (.aload_n 0) 1 := by decide +kernel
theorem qd105_1 : sq_in 105 1 (.getfield 40) 3 := by decide +kernel
theorem qd105_4 : sq_in 105 4 (.bipush 6) 2 := by decide +kernel
theorem qd105_6 : sq_in 105 6 (.if_icmp .ne 44) 3 := by decide +kernel
theorem qd105_9 : sq_in 105 9 (.iconst 0) 1 := by decide +kernel
theorem qd105_10 : sq_in 105 10 (.istore_n 1) 1 := by decide +kernel
theorem qd105_11 : sq_in 105 11 (.iload_n 1) 1 := by decide +kernel
theorem qd105_12 : sq_in 105 12 (.sipush 2715) 3 := by decide +kernel
theorem qd105_15 : sq_in 105 15 (.if_icmp .ge 25) 3 := by decide +kernel
theorem qd105_18 : sq_in 105 18 (.aload_n 0) 1 := by decide +kernel
theorem qd105_19 : sq_in 105 19 (.getfield 16) 3 := by decide +kernel
theorem qd105_22 : sq_in 105 22 (.iload_n 1) 1 := by decide +kernel
theorem qd105_23 : sq_in 105 23 (.aload_n 0) 1 := by decide +kernel
theorem qd105_24 : sq_in 105 24 (.getfield 16) 3 := by decide +kernel
theorem qd105_27 : sq_in 105 27 (.iload_n 1) 1 := by decide +kernel
theorem qd105_28 : sq_in 105 28 (.sipush 543) 3 := by decide +kernel
theorem qd105_31 : sq_in 105 31 (.iadd) 1 := by decide +kernel
theorem qd105_32 : sq_in 105 32 (.iaload) 1 := by decide +kernel
theorem qd105_33 : sq_in 105 33 (.iastore) 1 := by decide +kernel
theorem qd105_34 : sq_in 105 34 (.iinc 1 1) 3 := by decide +kernel
theorem qd105_37 : sq_in 105 37 (.goto (-26)) 3 := by decide +kernel
theorem qd105_40 : sq_in 105 40 (.aload_n 0) 1 := by decide +kernel
theorem qd105_41 : sq_in 105 41 (.dup) 1 := by decide +kernel
theorem qd105_42 : sq_in 105 42 (.getfield 40) 3 := by decide +kernel
theorem qd105_45 : sq_in 105 45 (.iconst 1) 1 := by decide +kernel
theorem qd105_46 : sq_in 105 46 (.isub) 1 := by decide +kernel
theorem qd105_47 : sq_in 105 47 (.putfield 40) 3 := by decide +kernel
theorem qd105_50 : sq_in 105 50 (.iconst 0) 1 := by decide +kernel
theorem qd105_51 : sq_in 105 51 (.istore_n 1) 1 := by decide +kernel
theorem qd105_52 : sq_in 105 52 (.iload_n 1) 1 := by decide +kernel
theorem qd105_53 : sq_in 105 53 (.sipush 543) 3 := by decide +kernel
theorem qd105_56 : sq_in 105 56 (.if_icmp .ge 30) 3 := by decide +kernel
theorem qd105_59 : sq_in 105 59 (.aload_n 0) 1 := by decide +kernel
theorem qd105_60 : sq_in 105 60 (.getfield 16) 3 := by decide +kernel
theorem qd105_63 : sq_in 105 63 (.sipush 543) 3 := by decide +kernel
theorem qd105_66 : sq_in 105 66 (.aload_n 0) 1 := by decide +kernel
theorem qd105_67 : sq_in 105 67 (.getfield 40) 3 := by decide +kernel
theorem qd105_70 : sq_in 105 70 (.imul) 1 := by decide +kernel
theorem qd105_71 : sq_in 105 71 (.iload_n 1) 1 := by decide +kernel
theorem qd105_72 : sq_in 105 72 (.iadd) 1 := by decide +kernel
theorem qd105_73 : sq_in 105 73 (.aload_n 0) 1 := by decide +kernel
theorem qd105_74 : sq_in 105 74 (.getfield 7) 3 := by decide +kernel
theorem qd105_77 : sq_in 105 77 (.iload_n 1) 1 := by decide +kernel
theorem qd105_78 : sq_in 105 78 (.iaload) 1 := by decide +kernel
theorem qd105_79 : sq_in 105 79 (.iastore) 1 := by decide +kernel
theorem qd105_80 : sq_in 105 80 (.iinc 1 1) 3 := by decide +kernel
theorem qd105_83 : sq_in 105 83 (.goto (-31)) 3 := by decide +kernel
theorem qd105_86 : sq_in 105 86 (.aload_n 0) 1 := by decide +kernel
theorem qd105_87 : sq_in 105 87 (.dup) 1 := by decide +kernel
theorem qd105_88 : sq_in 105 88 (.getfield 40) 3 := by decide +kernel
theorem qd105_91 : sq_in 105 91 (.iconst 1) 1 := by decide +kernel
theorem qd105_92 : sq_in 105 92 (.iadd) 1 := by decide +kernel
theorem qd105_93 : sq_in 105 93 (.putfield 40) 3 := by decide +kernel
theorem qd105_96 : sq_in 105 96 (.return_) 1 := by decide +kernel
-- 106: SewingPilesModel.putAside()V
theorem qd106_0 : sq_in 106 0 (.iconst 0) 1 := by decide +kernel
theorem qd106_1 : sq_in 106 1 (.istore_n 1) 1 := by decide +kernel
theorem qd106_2 : sq_in 106 2 (.iload_n 1) 1 := by decide +kernel
theorem qd106_3 : sq_in 106 3 (.sipush 543) 3 := by decide +kernel
theorem qd106_6 : sq_in 106 6 (.if_icmp .ge 21) 3 := by decide +kernel
theorem qd106_9 : sq_in 106 9 (.aload_n 0) 1 := by decide +kernel
theorem qd106_10 : sq_in 106 10 (.getfield 13) 3 := by decide +kernel
theorem qd106_13 : sq_in 106 13 (.iload_n 1) 1 := by decide +kernel
theorem qd106_14 : sq_in 106 14 (.aload_n 0) 1 := by decide +kernel
theorem qd106_15 : sq_in 106 15 (.getfield 7) 3 := by decide +kernel
theorem qd106_18 : sq_in 106 18 (.iload_n 1) 1 := by decide +kernel
theorem qd106_19 : sq_in 106 19 (.iaload) 1 := by decide +kernel
theorem qd106_20 : sq_in 106 20 (.iastore) 1 := by decide +kernel
theorem qd106_21 : sq_in 106 21 (.iinc 1 1) 3 := by decide +kernel
theorem qd106_24 : sq_in 106 24 (.goto (-22)) 3 := by decide +kernel
theorem qd106_27 : sq_in 106 27 (.return_) 1 := by decide +kernel
-- 107: SewingPilesModel.takeBack()V
theorem qd107_0 : sq_in 107 0 (.iconst 0) 1 := by decide +kernel
theorem qd107_1 : sq_in 107 1 (.istore_n 1) 1 := by decide +kernel
theorem qd107_2 : sq_in 107 2 (.iload_n 1) 1 := by decide +kernel
theorem qd107_3 : sq_in 107 3 (.sipush 543) 3 := by decide +kernel
theorem qd107_6 : sq_in 107 6 (.if_icmp .ge 21) 3 := by decide +kernel
theorem qd107_9 : sq_in 107 9 (.aload_n 0) 1 := by decide +kernel
theorem qd107_10 : sq_in 107 10 (.getfield 7) 3 := by decide +kernel
theorem qd107_13 : sq_in 107 13 (.iload_n 1) 1 := by decide +kernel
theorem qd107_14 : sq_in 107 14 (.aload_n 0) 1 := by decide +kernel
theorem qd107_15 : sq_in 107 15 (.getfield 13) 3 := by decide +kernel
theorem qd107_18 : sq_in 107 18 (.iload_n 1) 1 := by decide +kernel
theorem qd107_19 : sq_in 107 19 (.iaload) 1 := by decide +kernel
theorem qd107_20 : sq_in 107 20 (.iastore) 1 := by decide +kernel
theorem qd107_21 : sq_in 107 21 (.iinc 1 1) 3 := by decide +kernel
theorem qd107_24 : sq_in 107 24 (.goto (-22)) 3 := by decide +kernel
theorem qd107_27 : sq_in 107 27 (.return_) 1 := by decide +kernel
-- 108: SewingPilesModel.wakesLowest()V
theorem qd108_0 : sq_in 108 0 (.iconst 0) 1 := by decide +kernel
theorem qd108_1 : sq_in 108 1 (.istore_n 1) 1 := by decide +kernel
theorem qd108_2 : sq_in 108 2 (.iload_n 1) 1 := by decide +kernel
theorem qd108_3 : sq_in 108 3 (.aload_n 0) 1 := by decide +kernel
theorem qd108_4 : sq_in 108 4 (.getfield 7) 3 := by decide +kernel
theorem qd108_7 : sq_in 108 7 (.iconst 4) 1 := by decide +kernel
theorem qd108_8 : sq_in 108 8 (.iaload) 1 := by decide +kernel
theorem qd108_9 : sq_in 108 9 (.if_icmp .ge 18) 3 := by decide +kernel
theorem qd108_12 : sq_in 108 12 (.aload_n 0) 1 := by decide +kernel
theorem qd108_13 : sq_in 108 13 (.iload_n 1) 1 := by decide +kernel
theorem qd108_14 : sq_in 108 14 (.iconst 3) 1 := by decide +kernel
theorem qd108_15 : sq_in 108 15 (.invokevirtual 43) 3 := by decide +kernel
theorem qd108_18 : sq_in 108 18 (.ifCond .ne 9) 3 := by decide +kernel
theorem qd108_21 : sq_in 108 21 (.iinc 1 1) 3 := by decide +kernel
theorem qd108_24 : sq_in 108 24 (.goto (-22)) 3 := by decide +kernel
theorem qd108_27 : sq_in 108 27 (.iload_n 1) 1 := by decide +kernel
theorem qd108_28 : sq_in 108 28 (.aload_n 0) 1 := by decide +kernel
theorem qd108_29 : sq_in 108 29 (.getfield 7) 3 := by decide +kernel
theorem qd108_32 : sq_in 108 32 (.iconst 4) 1 := by decide +kernel
theorem qd108_33 : sq_in 108 33 (.iaload) 1 := by decide +kernel
theorem qd108_34 : sq_in 108 34 (.if_icmp .ge 17) 3 := by decide +kernel
theorem qd108_37 : sq_in 108 37 (.aload_n 0) 1 := by decide +kernel
theorem qd108_38 : sq_in 108 38 (.iload_n 1) 1 := by decide +kernel
theorem qd108_39 : sq_in 108 39 (.iconst 3) 1 := by decide +kernel
theorem qd108_40 : sq_in 108 40 (.iconst 0) 1 := by decide +kernel
theorem qd108_41 : sq_in 108 41 (.invokevirtual 32) 3 := by decide +kernel
theorem qd108_44 : sq_in 108 44 (.aload_n 0) 1 := by decide +kernel
theorem qd108_45 : sq_in 108 45 (.iload_n 1) 1 := by decide +kernel
theorem qd108_46 : sq_in 108 46 (.iconst 2) 1 := by decide +kernel
theorem qd108_47 : sq_in 108 47 (.iconst 0) 1 := by decide +kernel
theorem qd108_48 : sq_in 108 48 (.invokevirtual 32) 3 := by decide +kernel
theorem qd108_51 : sq_in 108 51 (.return_) 1 := by decide +kernel
-- 109: SewingPilesModel.comes(II)I
theorem qd109_0 : sq_in 109 0 (.aload_n 0) 1 := by decide +kernel
theorem qd109_1 : sq_in 109 1 (.getfield 7) 3 := by decide +kernel
theorem qd109_4 : sq_in 109 4 (.iconst 5) 1 := by decide +kernel
theorem qd109_5 : sq_in 109 5 (.iaload) 1 := by decide +kernel
theorem qd109_6 : sq_in 109 6 (.istore_n 3) 1 := by decide +kernel
theorem qd109_7 : sq_in 109 7 (.aload_n 0) 1 := by decide +kernel
theorem qd109_8 : sq_in 109 8 (.getfield 7) 3 := by decide +kernel
theorem qd109_11 : sq_in 109 11 (.iconst 5) 1 := by decide +kernel
theorem qd109_12 : sq_in 109 12 (.dup2) 1 := by decide +kernel
theorem qd109_13 : sq_in 109 13 (.iaload) 1 := by decide +kernel
theorem qd109_14 : sq_in 109 14 (.iconst 1) 1 := by decide +kernel
theorem qd109_15 : sq_in 109 15 (.iadd) 1 := by decide +kernel
theorem qd109_16 : sq_in 109 16 (.iastore) 1 := by decide +kernel
theorem qd109_17 : sq_in 109 17 (.aload_n 0) 1 := by decide +kernel
theorem qd109_18 : sq_in 109 18 (.iload_n 3) 1 := by decide +kernel
theorem qd109_19 : sq_in 109 19 (.iconst 0) 1 := by decide +kernel
theorem qd109_20 : sq_in 109 20 (.iload_n 2) 1 := by decide +kernel
theorem qd109_21 : sq_in 109 21 (.invokevirtual 47) 3 := by decide +kernel
theorem qd109_24 : sq_in 109 24 (.aload_n 0) 1 := by decide +kernel
theorem qd109_25 : sq_in 109 25 (.iload_n 3) 1 := by decide +kernel
theorem qd109_26 : sq_in 109 26 (.iconst 1) 1 := by decide +kernel
theorem qd109_27 : sq_in 109 27 (.iconst 0) 1 := by decide +kernel
theorem qd109_28 : sq_in 109 28 (.invokevirtual 47) 3 := by decide +kernel
theorem qd109_31 : sq_in 109 31 (.aload_n 0) 1 := by decide +kernel
theorem qd109_32 : sq_in 109 32 (.iload_n 3) 1 := by decide +kernel
theorem qd109_33 : sq_in 109 33 (.iconst 2) 1 := by decide +kernel
theorem qd109_34 : sq_in 109 34 (.iload_n 1) 1 := by decide +kernel
theorem qd109_35 : sq_in 109 35 (.invokevirtual 47) 3 := by decide +kernel
theorem qd109_38 : sq_in 109 38 (.aload_n 0) 1 := by decide +kernel
theorem qd109_39 : sq_in 109 39 (.getfield 7) 3 := by decide +kernel
theorem qd109_42 : sq_in 109 42 (.bipush 71) 2 := by decide +kernel
theorem qd109_44 : sq_in 109 44 (.bipush 16) 2 := by decide +kernel
theorem qd109_46 : sq_in 109 46 (.iload_n 1) 1 := by decide +kernel
theorem qd109_47 : sq_in 109 47 (.imul) 1 := by decide +kernel
theorem qd109_48 : sq_in 109 48 (.iadd) 1 := by decide +kernel
theorem qd109_49 : sq_in 109 49 (.aload_n 0) 1 := by decide +kernel
theorem qd109_50 : sq_in 109 50 (.iload_n 1) 1 := by decide +kernel
theorem qd109_51 : sq_in 109 51 (.bipush 8) 2 := by decide +kernel
theorem qd109_53 : sq_in 109 53 (.invokevirtual 43) 3 := by decide +kernel
theorem qd109_56 : sq_in 109 56 (.iadd) 1 := by decide +kernel
theorem qd109_57 : sq_in 109 57 (.iload_n 3) 1 := by decide +kernel
theorem qd109_58 : sq_in 109 58 (.iastore) 1 := by decide +kernel
theorem qd109_59 : sq_in 109 59 (.aload_n 0) 1 := by decide +kernel
theorem qd109_60 : sq_in 109 60 (.iload_n 1) 1 := by decide +kernel
theorem qd109_61 : sq_in 109 61 (.bipush 8) 2 := by decide +kernel
theorem qd109_63 : sq_in 109 63 (.invokevirtual 50) 3 := by decide +kernel
theorem qd109_66 : sq_in 109 66 (.aload_n 0) 1 := by decide +kernel
theorem qd109_67 : sq_in 109 67 (.invokevirtual 54) 3 := by decide +kernel
theorem qd109_70 : sq_in 109 70 (.iload_n 3) 1 := by decide +kernel
theorem qd109_71 : sq_in 109 71 (.ireturn) 1 := by decide +kernel
-- 110: SewingPilesModel.takes(II)V
theorem qd110_0 : sq_in 110 0 (.aload_n 0) 1 := by decide +kernel
theorem qd110_1 : sq_in 110 1 (.iload_n 1) 1 := by decide +kernel
theorem qd110_2 : sq_in 110 2 (.iconst 1) 1 := by decide +kernel
theorem qd110_3 : sq_in 110 3 (.iload_n 2) 1 := by decide +kernel
theorem qd110_4 : sq_in 110 4 (.iconst 1) 1 := by decide +kernel
theorem qd110_5 : sq_in 110 5 (.iadd) 1 := by decide +kernel
theorem qd110_6 : sq_in 110 6 (.invokevirtual 32) 3 := by decide +kernel
theorem qd110_9 : sq_in 110 9 (.aload_n 0) 1 := by decide +kernel
theorem qd110_10 : sq_in 110 10 (.iload_n 1) 1 := by decide +kernel
theorem qd110_11 : sq_in 110 11 (.iconst 2) 1 := by decide +kernel
theorem qd110_12 : sq_in 110 12 (.iconst 0) 1 := by decide +kernel
theorem qd110_13 : sq_in 110 13 (.invokevirtual 32) 3 := by decide +kernel
theorem qd110_16 : sq_in 110 16 (.aload_n 0) 1 := by decide +kernel
theorem qd110_17 : sq_in 110 17 (.iload_n 2) 1 := by decide +kernel
theorem qd110_18 : sq_in 110 18 (.iconst 1) 1 := by decide +kernel
theorem qd110_19 : sq_in 110 19 (.iconst 1) 1 := by decide +kernel
theorem qd110_20 : sq_in 110 20 (.invokevirtual 47) 3 := by decide +kernel
theorem qd110_23 : sq_in 110 23 (.aload_n 0) 1 := by decide +kernel
theorem qd110_24 : sq_in 110 24 (.iload_n 2) 1 := by decide +kernel
theorem qd110_25 : sq_in 110 25 (.iconst 2) 1 := by decide +kernel
theorem qd110_26 : sq_in 110 26 (.iload_n 1) 1 := by decide +kernel
theorem qd110_27 : sq_in 110 27 (.invokevirtual 47) 3 := by decide +kernel
theorem qd110_30 : sq_in 110 30 (.aload_n 0) 1 := by decide +kernel
theorem qd110_31 : sq_in 110 31 (.getfield 7) 3 := by decide +kernel
theorem qd110_34 : sq_in 110 34 (.bipush 7) 2 := by decide +kernel
theorem qd110_36 : sq_in 110 36 (.dup2) 1 := by decide +kernel
theorem qd110_37 : sq_in 110 37 (.iaload) 1 := by decide +kernel
theorem qd110_38 : sq_in 110 38 (.iconst 1) 1 := by decide +kernel
theorem qd110_39 : sq_in 110 39 (.iadd) 1 := by decide +kernel
theorem qd110_40 : sq_in 110 40 (.iastore) 1 := by decide +kernel
theorem qd110_41 : sq_in 110 41 (.aload_n 0) 1 := by decide +kernel
theorem qd110_42 : sq_in 110 42 (.iload_n 2) 1 := by decide +kernel
theorem qd110_43 : sq_in 110 43 (.iconst 0) 1 := by decide +kernel
theorem qd110_44 : sq_in 110 44 (.invokevirtual 57) 3 := by decide +kernel
theorem qd110_47 : sq_in 110 47 (.istore_n 3) 1 := by decide +kernel
theorem qd110_48 : sq_in 110 48 (.iload_n 3) 1 := by decide +kernel
theorem qd110_49 : sq_in 110 49 (.aload_n 0) 1 := by decide +kernel
theorem qd110_50 : sq_in 110 50 (.getfield 7) 3 := by decide +kernel
theorem qd110_53 : sq_in 110 53 (.iconst 0) 1 := by decide +kernel
theorem qd110_54 : sq_in 110 54 (.iaload) 1 := by decide +kernel
theorem qd110_55 : sq_in 110 55 (.if_icmp .le 45) 3 := by decide +kernel
theorem qd110_58 : sq_in 110 58 (.aload_n 0) 1 := by decide +kernel
theorem qd110_59 : sq_in 110 59 (.getfield 7) 3 := by decide +kernel
theorem qd110_62 : sq_in 110 62 (.iconst 5) 1 := by decide +kernel
theorem qd110_63 : sq_in 110 63 (.iaload) 1 := by decide +kernel
theorem qd110_64 : sq_in 110 64 (.bipush 120) 2 := by decide +kernel
theorem qd110_66 : sq_in 110 66 (.if_icmp .ge 34) 3 := by decide +kernel
theorem qd110_69 : sq_in 110 69 (.aload_n 0) 1 := by decide +kernel
theorem qd110_70 : sq_in 110 70 (.iload_n 2) 1 := by decide +kernel
theorem qd110_71 : sq_in 110 71 (.iconst 0) 1 := by decide +kernel
theorem qd110_72 : sq_in 110 72 (.iload_n 3) 1 := by decide +kernel
theorem qd110_73 : sq_in 110 73 (.iload_n 3) 1 := by decide +kernel
theorem qd110_74 : sq_in 110 74 (.iconst 2) 1 := by decide +kernel
theorem qd110_75 : sq_in 110 75 (.idiv) 1 := by decide +kernel
theorem qd110_76 : sq_in 110 76 (.isub) 1 := by decide +kernel
theorem qd110_77 : sq_in 110 77 (.invokevirtual 47) 3 := by decide +kernel
theorem qd110_80 : sq_in 110 80 (.aload_n 0) 1 := by decide +kernel
theorem qd110_81 : sq_in 110 81 (.getfield 7) 3 := by decide +kernel
theorem qd110_84 : sq_in 110 84 (.bipush 6) 2 := by decide +kernel
theorem qd110_86 : sq_in 110 86 (.dup2) 1 := by decide +kernel
theorem qd110_87 : sq_in 110 87 (.iaload) 1 := by decide +kernel
theorem qd110_88 : sq_in 110 88 (.iconst 1) 1 := by decide +kernel
theorem qd110_89 : sq_in 110 89 (.iadd) 1 := by decide +kernel
theorem qd110_90 : sq_in 110 90 (.iastore) 1 := by decide +kernel
theorem qd110_91 : sq_in 110 91 (.aload_n 0) 1 := by decide +kernel
theorem qd110_92 : sq_in 110 92 (.iload_n 1) 1 := by decide +kernel
theorem qd110_93 : sq_in 110 93 (.iload_n 3) 1 := by decide +kernel
theorem qd110_94 : sq_in 110 94 (.iconst 2) 1 := by decide +kernel
theorem qd110_95 : sq_in 110 95 (.idiv) 1 := by decide +kernel
theorem qd110_96 : sq_in 110 96 (.invokevirtual 60) 3 := by decide +kernel
theorem qd110_99 : sq_in 110 99 (.pop) 1 := by decide +kernel
theorem qd110_100 : sq_in 110 100 (.return_) 1 := by decide +kernel
-- 111: SewingPilesModel.takesNear(I)V
theorem qd111_0 : sq_in 111 0 (.aload_n 0) 1 := by decide +kernel
theorem qd111_1 : sq_in 111 1 (.iload_n 1) 1 := by decide +kernel
theorem qd111_2 : sq_in 111 2 (.bipush 8) 2 := by decide +kernel
theorem qd111_4 : sq_in 111 4 (.aload_n 0) 1 := by decide +kernel
theorem qd111_5 : sq_in 111 5 (.iload_n 1) 1 := by decide +kernel
theorem qd111_6 : sq_in 111 6 (.bipush 8) 2 := by decide +kernel
theorem qd111_8 : sq_in 111 8 (.invokevirtual 43) 3 := by decide +kernel
theorem qd111_11 : sq_in 111 11 (.iconst 1) 1 := by decide +kernel
theorem qd111_12 : sq_in 111 12 (.isub) 1 := by decide +kernel
theorem qd111_13 : sq_in 111 13 (.invokevirtual 32) 3 := by decide +kernel
theorem qd111_16 : sq_in 111 16 (.aload_n 0) 1 := by decide +kernel
theorem qd111_17 : sq_in 111 17 (.iload_n 1) 1 := by decide +kernel
theorem qd111_18 : sq_in 111 18 (.aload_n 0) 1 := by decide +kernel
theorem qd111_19 : sq_in 111 19 (.iload_n 1) 1 := by decide +kernel
theorem qd111_20 : sq_in 111 20 (.aload_n 0) 1 := by decide +kernel
theorem qd111_21 : sq_in 111 21 (.iload_n 1) 1 := by decide +kernel
theorem qd111_22 : sq_in 111 22 (.bipush 8) 2 := by decide +kernel
theorem qd111_24 : sq_in 111 24 (.invokevirtual 43) 3 := by decide +kernel
theorem qd111_27 : sq_in 111 27 (.invokevirtual 63) 3 := by decide +kernel
theorem qd111_30 : sq_in 111 30 (.invokevirtual 66) 3 := by decide +kernel
theorem qd111_33 : sq_in 111 33 (.return_) 1 := by decide +kernel
-- 112: SewingPilesModel.takesFar(II)V
theorem qd112_0 : sq_in 112 0 (.aload_n 0) 1 := by decide +kernel
theorem qd112_1 : sq_in 112 1 (.iload_n 2) 1 := by decide +kernel
theorem qd112_2 : sq_in 112 2 (.iconst 0) 1 := by decide +kernel
theorem qd112_3 : sq_in 112 3 (.invokevirtual 63) 3 := by decide +kernel
theorem qd112_6 : sq_in 112 6 (.istore_n 3) 1 := by decide +kernel
theorem qd112_7 : sq_in 112 7 (.aload_n 0) 1 := by decide +kernel
theorem qd112_8 : sq_in 112 8 (.iload_n 2) 1 := by decide +kernel
theorem qd112_9 : sq_in 112 9 (.bipush 8) 2 := by decide +kernel
theorem qd112_11 : sq_in 112 11 (.aload_n 0) 1 := by decide +kernel
theorem qd112_12 : sq_in 112 12 (.iload_n 2) 1 := by decide +kernel
theorem qd112_13 : sq_in 112 13 (.bipush 8) 2 := by decide +kernel
theorem qd112_15 : sq_in 112 15 (.invokevirtual 43) 3 := by decide +kernel
theorem qd112_18 : sq_in 112 18 (.iconst 1) 1 := by decide +kernel
theorem qd112_19 : sq_in 112 19 (.isub) 1 := by decide +kernel
theorem qd112_20 : sq_in 112 20 (.invokevirtual 32) 3 := by decide +kernel
theorem qd112_23 : sq_in 112 23 (.iconst 0) 1 := by decide +kernel
theorem qd112_24 : sq_in 112 24 (.istore 4) 2 := by decide +kernel
theorem qd112_26 : sq_in 112 26 (.iload 4) 2 := by decide +kernel
theorem qd112_28 : sq_in 112 28 (.aload_n 0) 1 := by decide +kernel
theorem qd112_29 : sq_in 112 29 (.iload_n 2) 1 := by decide +kernel
theorem qd112_30 : sq_in 112 30 (.bipush 8) 2 := by decide +kernel
theorem qd112_32 : sq_in 112 32 (.invokevirtual 43) 3 := by decide +kernel
theorem qd112_35 : sq_in 112 35 (.if_icmp .ge 33) 3 := by decide +kernel
theorem qd112_38 : sq_in 112 38 (.aload_n 0) 1 := by decide +kernel
theorem qd112_39 : sq_in 112 39 (.getfield 7) 3 := by decide +kernel
theorem qd112_42 : sq_in 112 42 (.bipush 71) 2 := by decide +kernel
theorem qd112_44 : sq_in 112 44 (.bipush 16) 2 := by decide +kernel
theorem qd112_46 : sq_in 112 46 (.iload_n 2) 1 := by decide +kernel
theorem qd112_47 : sq_in 112 47 (.imul) 1 := by decide +kernel
theorem qd112_48 : sq_in 112 48 (.iadd) 1 := by decide +kernel
theorem qd112_49 : sq_in 112 49 (.iload 4) 2 := by decide +kernel
theorem qd112_51 : sq_in 112 51 (.iadd) 1 := by decide +kernel
theorem qd112_52 : sq_in 112 52 (.aload_n 0) 1 := by decide +kernel
theorem qd112_53 : sq_in 112 53 (.iload_n 2) 1 := by decide +kernel
theorem qd112_54 : sq_in 112 54 (.iload 4) 2 := by decide +kernel
theorem qd112_56 : sq_in 112 56 (.iconst 1) 1 := by decide +kernel
theorem qd112_57 : sq_in 112 57 (.iadd) 1 := by decide +kernel
theorem qd112_58 : sq_in 112 58 (.invokevirtual 63) 3 := by decide +kernel
theorem qd112_61 : sq_in 112 61 (.iastore) 1 := by decide +kernel
theorem qd112_62 : sq_in 112 62 (.iinc 4 1) 3 := by decide +kernel
theorem qd112_65 : sq_in 112 65 (.goto (-39)) 3 := by decide +kernel
theorem qd112_68 : sq_in 112 68 (.aload_n 0) 1 := by decide +kernel
theorem qd112_69 : sq_in 112 69 (.iload_n 1) 1 := by decide +kernel
theorem qd112_70 : sq_in 112 70 (.iconst 5) 1 := by decide +kernel
theorem qd112_71 : sq_in 112 71 (.invokevirtual 50) 3 := by decide +kernel
theorem qd112_74 : sq_in 112 74 (.aload_n 0) 1 := by decide +kernel
theorem qd112_75 : sq_in 112 75 (.iload_n 1) 1 := by decide +kernel
theorem qd112_76 : sq_in 112 76 (.iload_n 3) 1 := by decide +kernel
theorem qd112_77 : sq_in 112 77 (.invokevirtual 66) 3 := by decide +kernel
theorem qd112_80 : sq_in 112 80 (.return_) 1 := by decide +kernel
-- 113: SewingPilesModel.canTakeFrom(II)Z
theorem qd113_0 : sq_in 113 0 (.aload_n 0) 1 := by decide +kernel
theorem qd113_1 : sq_in 113 1 (.iload_n 2) 1 := by decide +kernel
theorem qd113_2 : sq_in 113 2 (.bipush 8) 2 := by decide +kernel
theorem qd113_4 : sq_in 113 4 (.invokevirtual 43) 3 := by decide +kernel
theorem qd113_7 : sq_in 113 7 (.istore_n 3) 1 := by decide +kernel
theorem qd113_8 : sq_in 113 8 (.aload_n 0) 1 := by decide +kernel
theorem qd113_9 : sq_in 113 9 (.iload_n 2) 1 := by decide +kernel
theorem qd113_10 : sq_in 113 10 (.iconst 3) 1 := by decide +kernel
theorem qd113_11 : sq_in 113 11 (.invokevirtual 43) 3 := by decide +kernel
theorem qd113_14 : sq_in 113 14 (.iconst 1) 1 := by decide +kernel
theorem qd113_15 : sq_in 113 15 (.if_icmp .eq 12) 3 := by decide +kernel
theorem qd113_18 : sq_in 113 18 (.aload_n 0) 1 := by decide +kernel
theorem qd113_19 : sq_in 113 19 (.iload_n 2) 1 := by decide +kernel
theorem qd113_20 : sq_in 113 20 (.iconst 1) 1 := by decide +kernel
theorem qd113_21 : sq_in 113 21 (.invokevirtual 43) 3 := by decide +kernel
theorem qd113_24 : sq_in 113 24 (.ifCond .le 7) 3 := by decide +kernel
theorem qd113_27 : sq_in 113 27 (.iconst 1) 1 := by decide +kernel
theorem qd113_28 : sq_in 113 28 (.goto 4) 3 := by decide +kernel
theorem qd113_31 : sq_in 113 31 (.iconst 0) 1 := by decide +kernel
theorem qd113_32 : sq_in 113 32 (.istore 4) 2 := by decide +kernel
theorem qd113_34 : sq_in 113 34 (.iload_n 1) 1 := by decide +kernel
theorem qd113_35 : sq_in 113 35 (.iload_n 2) 1 := by decide +kernel
theorem qd113_36 : sq_in 113 36 (.if_icmp .eq 22) 3 := by decide +kernel
theorem qd113_39 : sq_in 113 39 (.iload_n 3) 1 := by decide +kernel
theorem qd113_40 : sq_in 113 40 (.iconst 1) 1 := by decide +kernel
theorem qd113_41 : sq_in 113 41 (.if_icmp .gt 13) 3 := by decide +kernel
theorem qd113_44 : sq_in 113 44 (.iload_n 3) 1 := by decide +kernel
theorem qd113_45 : sq_in 113 45 (.iconst 1) 1 := by decide +kernel
theorem qd113_46 : sq_in 113 46 (.if_icmp .ne 12) 3 := by decide +kernel
theorem qd113_49 : sq_in 113 49 (.iload 4) 2 := by decide +kernel
theorem qd113_51 : sq_in 113 51 (.ifCond .eq 7) 3 := by decide +kernel
theorem qd113_54 : sq_in 113 54 (.iconst 1) 1 := by decide +kernel
theorem qd113_55 : sq_in 113 55 (.goto 4) 3 := by decide +kernel
theorem qd113_58 : sq_in 113 58 (.iconst 0) 1 := by decide +kernel
theorem qd113_59 : sq_in 113 59 (.ireturn) 1 := by decide +kernel
-- 114: SewingPilesModel.isAhead(III)Z
theorem qd114_0 : sq_in 114 0 (.aload_n 0) 1 := by decide +kernel
theorem qd114_1 : sq_in 114 1 (.getfield 7) 3 := by decide +kernel
theorem qd114_4 : sq_in 114 4 (.iconst 1) 1 := by decide +kernel
theorem qd114_5 : sq_in 114 5 (.iaload) 1 := by decide +kernel
theorem qd114_6 : sq_in 114 6 (.lookupswitch 92 #[(0, 26), (1, 49)]) 26 := by decide +kernel
theorem qd114_32 : sq_in 114 32 (.aload_n 0) 1 := by decide +kernel
theorem qd114_33 : sq_in 114 33 (.iload_n 2) 1 := by decide +kernel
theorem qd114_34 : sq_in 114 34 (.bipush 8) 2 := by decide +kernel
theorem qd114_36 : sq_in 114 36 (.invokevirtual 43) 3 := by decide +kernel
theorem qd114_39 : sq_in 114 39 (.aload_n 0) 1 := by decide +kernel
theorem qd114_40 : sq_in 114 40 (.iload_n 3) 1 := by decide +kernel
theorem qd114_41 : sq_in 114 41 (.bipush 8) 2 := by decide +kernel
theorem qd114_43 : sq_in 114 43 (.invokevirtual 43) 3 := by decide +kernel
theorem qd114_46 : sq_in 114 46 (.if_icmp .le 7) 3 := by decide +kernel
theorem qd114_49 : sq_in 114 49 (.iconst 1) 1 := by decide +kernel
theorem qd114_50 : sq_in 114 50 (.goto 4) 3 := by decide +kernel
theorem qd114_53 : sq_in 114 53 (.iconst 0) 1 := by decide +kernel
theorem qd114_54 : sq_in 114 54 (.ireturn) 1 := by decide +kernel
theorem qd114_55 : sq_in 114 55 (.iload_n 2) 1 := by decide +kernel
theorem qd114_56 : sq_in 114 56 (.iload_n 1) 1 := by decide +kernel
theorem qd114_57 : sq_in 114 57 (.isub) 1 := by decide +kernel
theorem qd114_58 : sq_in 114 58 (.aload_n 0) 1 := by decide +kernel
theorem qd114_59 : sq_in 114 59 (.getfield 7) 3 := by decide +kernel
theorem qd114_62 : sq_in 114 62 (.iconst 4) 1 := by decide +kernel
theorem qd114_63 : sq_in 114 63 (.iaload) 1 := by decide +kernel
theorem qd114_64 : sq_in 114 64 (.iadd) 1 := by decide +kernel
theorem qd114_65 : sq_in 114 65 (.aload_n 0) 1 := by decide +kernel
theorem qd114_66 : sq_in 114 66 (.getfield 7) 3 := by decide +kernel
theorem qd114_69 : sq_in 114 69 (.iconst 4) 1 := by decide +kernel
theorem qd114_70 : sq_in 114 70 (.iaload) 1 := by decide +kernel
theorem qd114_71 : sq_in 114 71 (.irem) 1 := by decide +kernel
theorem qd114_72 : sq_in 114 72 (.iload_n 3) 1 := by decide +kernel
theorem qd114_73 : sq_in 114 73 (.iload_n 1) 1 := by decide +kernel
theorem qd114_74 : sq_in 114 74 (.isub) 1 := by decide +kernel
theorem qd114_75 : sq_in 114 75 (.aload_n 0) 1 := by decide +kernel
theorem qd114_76 : sq_in 114 76 (.getfield 7) 3 := by decide +kernel
theorem qd114_79 : sq_in 114 79 (.iconst 4) 1 := by decide +kernel
theorem qd114_80 : sq_in 114 80 (.iaload) 1 := by decide +kernel
theorem qd114_81 : sq_in 114 81 (.iadd) 1 := by decide +kernel
theorem qd114_82 : sq_in 114 82 (.aload_n 0) 1 := by decide +kernel
theorem qd114_83 : sq_in 114 83 (.getfield 7) 3 := by decide +kernel
theorem qd114_86 : sq_in 114 86 (.iconst 4) 1 := by decide +kernel
theorem qd114_87 : sq_in 114 87 (.iaload) 1 := by decide +kernel
theorem qd114_88 : sq_in 114 88 (.irem) 1 := by decide +kernel
theorem qd114_89 : sq_in 114 89 (.if_icmp .ge 7) 3 := by decide +kernel
theorem qd114_92 : sq_in 114 92 (.iconst 1) 1 := by decide +kernel
theorem qd114_93 : sq_in 114 93 (.goto 4) 3 := by decide +kernel
theorem qd114_96 : sq_in 114 96 (.iconst 0) 1 := by decide +kernel
theorem qd114_97 : sq_in 114 97 (.ireturn) 1 := by decide +kernel
theorem qd114_98 : sq_in 114 98 (.aload_n 0) 1 := by decide +kernel
theorem qd114_99 : sq_in 114 99 (.aload_n 0) 1 := by decide +kernel
theorem qd114_100 : sq_in 114 100 (.iload_n 2) 1 := by decide +kernel
theorem qd114_101 : sq_in 114 101 (.iconst 0) 1 := by decide +kernel
theorem qd114_102 : sq_in 114 102 (.invokevirtual 63) 3 := by decide +kernel
theorem qd114_105 : sq_in 114 105 (.iconst 0) 1 := by decide +kernel
theorem qd114_106 : sq_in 114 106 (.invokevirtual 57) 3 := by decide +kernel
theorem qd114_109 : sq_in 114 109 (.aload_n 0) 1 := by decide +kernel
theorem qd114_110 : sq_in 114 110 (.aload_n 0) 1 := by decide +kernel
theorem qd114_111 : sq_in 114 111 (.iload_n 3) 1 := by decide +kernel
theorem qd114_112 : sq_in 114 112 (.iconst 0) 1 := by decide +kernel
theorem qd114_113 : sq_in 114 113 (.invokevirtual 63) 3 := by decide +kernel
theorem qd114_116 : sq_in 114 116 (.iconst 0) 1 := by decide +kernel
theorem qd114_117 : sq_in 114 117 (.invokevirtual 57) 3 := by decide +kernel
theorem qd114_120 : sq_in 114 120 (.if_icmp .le 7) 3 := by decide +kernel
theorem qd114_123 : sq_in 114 123 (.iconst 1) 1 := by decide +kernel
theorem qd114_124 : sq_in 114 124 (.goto 4) 3 := by decide +kernel
theorem qd114_127 : sq_in 114 127 (.iconst 0) 1 := by decide +kernel
theorem qd114_128 : sq_in 114 128 (.ireturn) 1 := by decide +kernel
-- 115: SewingPilesModel.chosen(I)I
theorem qd115_0 : sq_in 115 0 (.iconst (-1)) 1 := by decide +kernel
theorem qd115_1 : sq_in 115 1 (.istore_n 2) 1 := by decide +kernel
theorem qd115_2 : sq_in 115 2 (.iconst 0) 1 := by decide +kernel
theorem qd115_3 : sq_in 115 3 (.istore_n 3) 1 := by decide +kernel
theorem qd115_4 : sq_in 115 4 (.iload_n 3) 1 := by decide +kernel
theorem qd115_5 : sq_in 115 5 (.aload_n 0) 1 := by decide +kernel
theorem qd115_6 : sq_in 115 6 (.getfield 7) 3 := by decide +kernel
theorem qd115_9 : sq_in 115 9 (.iconst 4) 1 := by decide +kernel
theorem qd115_10 : sq_in 115 10 (.iaload) 1 := by decide +kernel
theorem qd115_11 : sq_in 115 11 (.if_icmp .ge 51) 3 := by decide +kernel
theorem qd115_14 : sq_in 115 14 (.aload_n 0) 1 := by decide +kernel
theorem qd115_15 : sq_in 115 15 (.iload_n 1) 1 := by decide +kernel
theorem qd115_16 : sq_in 115 16 (.iload_n 3) 1 := by decide +kernel
theorem qd115_17 : sq_in 115 17 (.invokevirtual 69) 3 := by decide +kernel
theorem qd115_20 : sq_in 115 20 (.ifCond .eq 22) 3 := by decide +kernel
theorem qd115_23 : sq_in 115 23 (.iload_n 2) 1 := by decide +kernel
theorem qd115_24 : sq_in 115 24 (.iconst (-1)) 1 := by decide +kernel
theorem qd115_25 : sq_in 115 25 (.if_icmp .eq 13) 3 := by decide +kernel
theorem qd115_28 : sq_in 115 28 (.aload_n 0) 1 := by decide +kernel
theorem qd115_29 : sq_in 115 29 (.iload_n 1) 1 := by decide +kernel
theorem qd115_30 : sq_in 115 30 (.iload_n 3) 1 := by decide +kernel
theorem qd115_31 : sq_in 115 31 (.iload_n 2) 1 := by decide +kernel
theorem qd115_32 : sq_in 115 32 (.invokevirtual 73) 3 := by decide +kernel
theorem qd115_35 : sq_in 115 35 (.ifCond .eq 7) 3 := by decide +kernel
theorem qd115_38 : sq_in 115 38 (.iconst 1) 1 := by decide +kernel
theorem qd115_39 : sq_in 115 39 (.goto 4) 3 := by decide +kernel
theorem qd115_42 : sq_in 115 42 (.iconst 0) 1 := by decide +kernel
theorem qd115_43 : sq_in 115 43 (.istore 4) 2 := by decide +kernel
theorem qd115_45 : sq_in 115 45 (.iload 4) 2 := by decide +kernel
theorem qd115_47 : sq_in 115 47 (.ifCond .eq 7) 3 := by decide +kernel
theorem qd115_50 : sq_in 115 50 (.iload_n 3) 1 := by decide +kernel
theorem qd115_51 : sq_in 115 51 (.goto 4) 3 := by decide +kernel
theorem qd115_54 : sq_in 115 54 (.iload_n 2) 1 := by decide +kernel
theorem qd115_55 : sq_in 115 55 (.istore_n 2) 1 := by decide +kernel
theorem qd115_56 : sq_in 115 56 (.iinc 3 1) 3 := by decide +kernel
theorem qd115_59 : sq_in 115 59 (.goto (-55)) 3 := by decide +kernel
theorem qd115_62 : sq_in 115 62 (.iload_n 2) 1 := by decide +kernel
theorem qd115_63 : sq_in 115 63 (.ireturn) 1 := by decide +kernel
-- 116: SewingPilesModel.sews(I)V
theorem qd116_0 : sq_in 116 0 (.aload_n 0) 1 := by decide +kernel
theorem qd116_1 : sq_in 116 1 (.iload_n 1) 1 := by decide +kernel
theorem qd116_2 : sq_in 116 2 (.iconst 1) 1 := by decide +kernel
theorem qd116_3 : sq_in 116 3 (.invokevirtual 43) 3 := by decide +kernel
theorem qd116_6 : sq_in 116 6 (.iconst 1) 1 := by decide +kernel
theorem qd116_7 : sq_in 116 7 (.isub) 1 := by decide +kernel
theorem qd116_8 : sq_in 116 8 (.istore_n 2) 1 := by decide +kernel
theorem qd116_9 : sq_in 116 9 (.aload_n 0) 1 := by decide +kernel
theorem qd116_10 : sq_in 116 10 (.iload_n 2) 1 := by decide +kernel
theorem qd116_11 : sq_in 116 11 (.iconst 0) 1 := by decide +kernel
theorem qd116_12 : sq_in 116 12 (.invokevirtual 57) 3 := by decide +kernel
theorem qd116_15 : sq_in 116 15 (.aload_n 0) 1 := by decide +kernel
theorem qd116_16 : sq_in 116 16 (.iload_n 1) 1 := by decide +kernel
theorem qd116_17 : sq_in 116 17 (.iconst 0) 1 := by decide +kernel
theorem qd116_18 : sq_in 116 18 (.invokevirtual 43) 3 := by decide +kernel
theorem qd116_21 : sq_in 116 21 (.isub) 1 := by decide +kernel
theorem qd116_22 : sq_in 116 22 (.istore_n 3) 1 := by decide +kernel
theorem qd116_23 : sq_in 116 23 (.aload_n 0) 1 := by decide +kernel
theorem qd116_24 : sq_in 116 24 (.iload_n 2) 1 := by decide +kernel
theorem qd116_25 : sq_in 116 25 (.iconst 0) 1 := by decide +kernel
theorem qd116_26 : sq_in 116 26 (.iload_n 3) 1 := by decide +kernel
theorem qd116_27 : sq_in 116 27 (.ifCond .ge 7) 3 := by decide +kernel
theorem qd116_30 : sq_in 116 30 (.iconst 0) 1 := by decide +kernel
theorem qd116_31 : sq_in 116 31 (.goto 4) 3 := by decide +kernel
theorem qd116_34 : sq_in 116 34 (.iload_n 3) 1 := by decide +kernel
theorem qd116_35 : sq_in 116 35 (.invokevirtual 47) 3 := by decide +kernel
theorem qd116_38 : sq_in 116 38 (.iload_n 3) 1 := by decide +kernel
theorem qd116_39 : sq_in 116 39 (.ifCond .gt 23) 3 := by decide +kernel
theorem qd116_42 : sq_in 116 42 (.aload_n 0) 1 := by decide +kernel
theorem qd116_43 : sq_in 116 43 (.iload_n 2) 1 := by decide +kernel
theorem qd116_44 : sq_in 116 44 (.iconst 1) 1 := by decide +kernel
theorem qd116_45 : sq_in 116 45 (.iconst 2) 1 := by decide +kernel
theorem qd116_46 : sq_in 116 46 (.invokevirtual 47) 3 := by decide +kernel
theorem qd116_49 : sq_in 116 49 (.aload_n 0) 1 := by decide +kernel
theorem qd116_50 : sq_in 116 50 (.iload_n 1) 1 := by decide +kernel
theorem qd116_51 : sq_in 116 51 (.iconst 1) 1 := by decide +kernel
theorem qd116_52 : sq_in 116 52 (.iconst 0) 1 := by decide +kernel
theorem qd116_53 : sq_in 116 53 (.invokevirtual 32) 3 := by decide +kernel
theorem qd116_56 : sq_in 116 56 (.aload_n 0) 1 := by decide +kernel
theorem qd116_57 : sq_in 116 57 (.iload_n 1) 1 := by decide +kernel
theorem qd116_58 : sq_in 116 58 (.iconst 4) 1 := by decide +kernel
theorem qd116_59 : sq_in 116 59 (.invokevirtual 50) 3 := by decide +kernel
theorem qd116_62 : sq_in 116 62 (.return_) 1 := by decide +kernel
-- 117: SewingPilesModel.misses(I)V
theorem qd117_0 : sq_in 117 0 (.aload_n 0) 1 := by decide +kernel
theorem qd117_1 : sq_in 117 1 (.iload_n 1) 1 := by decide +kernel
theorem qd117_2 : sq_in 117 2 (.iconst 2) 1 := by decide +kernel
theorem qd117_3 : sq_in 117 3 (.invokevirtual 50) 3 := by decide +kernel
theorem qd117_6 : sq_in 117 6 (.aload_n 0) 1 := by decide +kernel
theorem qd117_7 : sq_in 117 7 (.iload_n 1) 1 := by decide +kernel
theorem qd117_8 : sq_in 117 8 (.bipush 7) 2 := by decide +kernel
theorem qd117_10 : sq_in 117 10 (.invokevirtual 50) 3 := by decide +kernel
theorem qd117_13 : sq_in 117 13 (.aload_n 0) 1 := by decide +kernel
theorem qd117_14 : sq_in 117 14 (.iload_n 1) 1 := by decide +kernel
theorem qd117_15 : sq_in 117 15 (.iconst 2) 1 := by decide +kernel
theorem qd117_16 : sq_in 117 16 (.invokevirtual 43) 3 := by decide +kernel
theorem qd117_19 : sq_in 117 19 (.aload_n 0) 1 := by decide +kernel
theorem qd117_20 : sq_in 117 20 (.getfield 7) 3 := by decide +kernel
theorem qd117_23 : sq_in 117 23 (.iconst 2) 1 := by decide +kernel
theorem qd117_24 : sq_in 117 24 (.iaload) 1 := by decide +kernel
theorem qd117_25 : sq_in 117 25 (.if_icmp .lt 17) 3 := by decide +kernel
theorem qd117_28 : sq_in 117 28 (.aload_n 0) 1 := by decide +kernel
theorem qd117_29 : sq_in 117 29 (.iload_n 1) 1 := by decide +kernel
theorem qd117_30 : sq_in 117 30 (.iconst 3) 1 := by decide +kernel
theorem qd117_31 : sq_in 117 31 (.iconst 1) 1 := by decide +kernel
theorem qd117_32 : sq_in 117 32 (.invokevirtual 32) 3 := by decide +kernel
theorem qd117_35 : sq_in 117 35 (.aload_n 0) 1 := by decide +kernel
theorem qd117_36 : sq_in 117 36 (.iload_n 1) 1 := by decide +kernel
theorem qd117_37 : sq_in 117 37 (.iconst 2) 1 := by decide +kernel
theorem qd117_38 : sq_in 117 38 (.iconst 0) 1 := by decide +kernel
theorem qd117_39 : sq_in 117 39 (.invokevirtual 32) 3 := by decide +kernel
theorem qd117_42 : sq_in 117 42 (.return_) 1 := by decide +kernel
-- 118: SewingPilesModel.acts(I)V
theorem qd118_0 : sq_in 118 0 (.aload_n 0) 1 := by decide +kernel
theorem qd118_1 : sq_in 118 1 (.getfield 76) 3 := by decide +kernel
theorem qd118_4 : sq_in 118 4 (.ifCond .eq 7) 3 := by decide +kernel
theorem qd118_7 : sq_in 118 7 (.iconst (-1)) 1 := by decide +kernel
theorem qd118_8 : sq_in 118 8 (.goto 8) 3 := by decide +kernel
theorem qd118_11 : sq_in 118 11 (.aload_n 0) 1 := by decide +kernel
theorem qd118_12 : sq_in 118 12 (.iload_n 1) 1 := by decide +kernel
theorem qd118_13 : sq_in 118 13 (.invokevirtual 80) 3 := by decide +kernel
theorem qd118_16 : sq_in 118 16 (.istore_n 2) 1 := by decide +kernel
theorem qd118_17 : sq_in 118 17 (.aload_n 0) 1 := by decide +kernel
theorem qd118_18 : sq_in 118 18 (.iload_n 1) 1 := by decide +kernel
theorem qd118_19 : sq_in 118 19 (.iconst 3) 1 := by decide +kernel
theorem qd118_20 : sq_in 118 20 (.invokevirtual 43) 3 := by decide +kernel
theorem qd118_23 : sq_in 118 23 (.iconst 1) 1 := by decide +kernel
theorem qd118_24 : sq_in 118 24 (.if_icmp .ne 13) 3 := by decide +kernel
theorem qd118_27 : sq_in 118 27 (.aload_n 0) 1 := by decide +kernel
theorem qd118_28 : sq_in 118 28 (.iload_n 1) 1 := by decide +kernel
theorem qd118_29 : sq_in 118 29 (.bipush 6) 2 := by decide +kernel
theorem qd118_31 : sq_in 118 31 (.invokevirtual 50) 3 := by decide +kernel
theorem qd118_34 : sq_in 118 34 (.goto 57) 3 := by decide +kernel
theorem qd118_37 : sq_in 118 37 (.aload_n 0) 1 := by decide +kernel
theorem qd118_38 : sq_in 118 38 (.iload_n 1) 1 := by decide +kernel
theorem qd118_39 : sq_in 118 39 (.iconst 1) 1 := by decide +kernel
theorem qd118_40 : sq_in 118 40 (.invokevirtual 43) 3 := by decide +kernel
theorem qd118_43 : sq_in 118 43 (.ifCond .le 11) 3 := by decide +kernel
theorem qd118_46 : sq_in 118 46 (.aload_n 0) 1 := by decide +kernel
theorem qd118_47 : sq_in 118 47 (.iload_n 1) 1 := by decide +kernel
theorem qd118_48 : sq_in 118 48 (.invokevirtual 84) 3 := by decide +kernel
theorem qd118_51 : sq_in 118 51 (.goto 40) 3 := by decide +kernel
theorem qd118_54 : sq_in 118 54 (.aload_n 0) 1 := by decide +kernel
theorem qd118_55 : sq_in 118 55 (.iload_n 1) 1 := by decide +kernel
theorem qd118_56 : sq_in 118 56 (.bipush 8) 2 := by decide +kernel
theorem qd118_58 : sq_in 118 58 (.invokevirtual 43) 3 := by decide +kernel
theorem qd118_61 : sq_in 118 61 (.ifCond .le 11) 3 := by decide +kernel
theorem qd118_64 : sq_in 118 64 (.aload_n 0) 1 := by decide +kernel
theorem qd118_65 : sq_in 118 65 (.iload_n 1) 1 := by decide +kernel
theorem qd118_66 : sq_in 118 66 (.invokevirtual 88) 3 := by decide +kernel
theorem qd118_69 : sq_in 118 69 (.goto 22) 3 := by decide +kernel
theorem qd118_72 : sq_in 118 72 (.iload_n 2) 1 := by decide +kernel
theorem qd118_73 : sq_in 118 73 (.iconst (-1)) 1 := by decide +kernel
theorem qd118_74 : sq_in 118 74 (.if_icmp .eq 12) 3 := by decide +kernel
theorem qd118_77 : sq_in 118 77 (.aload_n 0) 1 := by decide +kernel
theorem qd118_78 : sq_in 118 78 (.iload_n 1) 1 := by decide +kernel
theorem qd118_79 : sq_in 118 79 (.iload_n 2) 1 := by decide +kernel
theorem qd118_80 : sq_in 118 80 (.invokevirtual 91) 3 := by decide +kernel
theorem qd118_83 : sq_in 118 83 (.goto 8) 3 := by decide +kernel
theorem qd118_86 : sq_in 118 86 (.aload_n 0) 1 := by decide +kernel
theorem qd118_87 : sq_in 118 87 (.iload_n 1) 1 := by decide +kernel
theorem qd118_88 : sq_in 118 88 (.invokevirtual 94) 3 := by decide +kernel
theorem qd118_91 : sq_in 118 91 (.return_) 1 := by decide +kernel
-- 119: SewingPilesModel.passesOne()V
theorem qd119_0 : sq_in 119 0 (.iconst 0) 1 := by decide +kernel
theorem qd119_1 : sq_in 119 1 (.istore_n 1) 1 := by decide +kernel
theorem qd119_2 : sq_in 119 2 (.iload_n 1) 1 := by decide +kernel
theorem qd119_3 : sq_in 119 3 (.aload_n 0) 1 := by decide +kernel
theorem qd119_4 : sq_in 119 4 (.getfield 7) 3 := by decide +kernel
theorem qd119_7 : sq_in 119 7 (.iconst 4) 1 := by decide +kernel
theorem qd119_8 : sq_in 119 8 (.iaload) 1 := by decide +kernel
theorem qd119_9 : sq_in 119 9 (.if_icmp .ge 14) 3 := by decide +kernel
theorem qd119_12 : sq_in 119 12 (.aload_n 0) 1 := by decide +kernel
theorem qd119_13 : sq_in 119 13 (.iload_n 1) 1 := by decide +kernel
theorem qd119_14 : sq_in 119 14 (.invokevirtual 97) 3 := by decide +kernel
theorem qd119_17 : sq_in 119 17 (.iinc 1 1) 3 := by decide +kernel
theorem qd119_20 : sq_in 119 20 (.goto (-18)) 3 := by decide +kernel
theorem qd119_23 : sq_in 119 23 (.aload_n 0) 1 := by decide +kernel
theorem qd119_24 : sq_in 119 24 (.getfield 7) 3 := by decide +kernel
theorem qd119_27 : sq_in 119 27 (.iconst 3) 1 := by decide +kernel
theorem qd119_28 : sq_in 119 28 (.dup2) 1 := by decide +kernel
theorem qd119_29 : sq_in 119 29 (.iaload) 1 := by decide +kernel
theorem qd119_30 : sq_in 119 30 (.iconst 1) 1 := by decide +kernel
theorem qd119_31 : sq_in 119 31 (.iadd) 1 := by decide +kernel
theorem qd119_32 : sq_in 119 32 (.iastore) 1 := by decide +kernel
theorem qd119_33 : sq_in 119 33 (.return_) 1 := by decide +kernel
-- 120: SewingPilesModel.passesAll(I)V
theorem qd120_0 : sq_in 120 0 (.iconst 0) 1 := by decide +kernel
theorem qd120_1 : sq_in 120 1 (.istore_n 2) 1 := by decide +kernel
theorem qd120_2 : sq_in 120 2 (.iload_n 2) 1 := by decide +kernel
theorem qd120_3 : sq_in 120 3 (.iload_n 1) 1 := by decide +kernel
theorem qd120_4 : sq_in 120 4 (.if_icmp .ge 13) 3 := by decide +kernel
theorem qd120_7 : sq_in 120 7 (.aload_n 0) 1 := by decide +kernel
theorem qd120_8 : sq_in 120 8 (.invokevirtual 100) 3 := by decide +kernel
theorem qd120_11 : sq_in 120 11 (.iinc 2 1) 3 := by decide +kernel
theorem qd120_14 : sq_in 120 14 (.goto (-12)) 3 := by decide +kernel
theorem qd120_17 : sq_in 120 17 (.return_) 1 := by decide +kernel
-- 121: SewingPilesModel.sumOf(I)I
theorem qd121_0 : sq_in 121 0 (.iconst 0) 1 := by decide +kernel
theorem qd121_1 : sq_in 121 1 (.istore_n 2) 1 := by decide +kernel
theorem qd121_2 : sq_in 121 2 (.iconst 0) 1 := by decide +kernel
theorem qd121_3 : sq_in 121 3 (.istore_n 3) 1 := by decide +kernel
theorem qd121_4 : sq_in 121 4 (.iload_n 3) 1 := by decide +kernel
theorem qd121_5 : sq_in 121 5 (.aload_n 0) 1 := by decide +kernel
theorem qd121_6 : sq_in 121 6 (.getfield 7) 3 := by decide +kernel
theorem qd121_9 : sq_in 121 9 (.iconst 4) 1 := by decide +kernel
theorem qd121_10 : sq_in 121 10 (.iaload) 1 := by decide +kernel
theorem qd121_11 : sq_in 121 11 (.if_icmp .ge 18) 3 := by decide +kernel
theorem qd121_14 : sq_in 121 14 (.iload_n 2) 1 := by decide +kernel
theorem qd121_15 : sq_in 121 15 (.aload_n 0) 1 := by decide +kernel
theorem qd121_16 : sq_in 121 16 (.iload_n 3) 1 := by decide +kernel
theorem qd121_17 : sq_in 121 17 (.iload_n 1) 1 := by decide +kernel
theorem qd121_18 : sq_in 121 18 (.invokevirtual 43) 3 := by decide +kernel
theorem qd121_21 : sq_in 121 21 (.iadd) 1 := by decide +kernel
theorem qd121_22 : sq_in 121 22 (.istore_n 2) 1 := by decide +kernel
theorem qd121_23 : sq_in 121 23 (.iinc 3 1) 3 := by decide +kernel
theorem qd121_26 : sq_in 121 26 (.goto (-22)) 3 := by decide +kernel
theorem qd121_29 : sq_in 121 29 (.iload_n 2) 1 := by decide +kernel
theorem qd121_30 : sq_in 121 30 (.ireturn) 1 := by decide +kernel
-- 122: SewingPilesModel.workLeft()I
theorem qd122_0 : sq_in 122 0 (.iconst 0) 1 := by decide +kernel
theorem qd122_1 : sq_in 122 1 (.istore_n 1) 1 := by decide +kernel
theorem qd122_2 : sq_in 122 2 (.iconst 0) 1 := by decide +kernel
theorem qd122_3 : sq_in 122 3 (.istore_n 2) 1 := by decide +kernel
theorem qd122_4 : sq_in 122 4 (.iload_n 2) 1 := by decide +kernel
theorem qd122_5 : sq_in 122 5 (.aload_n 0) 1 := by decide +kernel
theorem qd122_6 : sq_in 122 6 (.getfield 7) 3 := by decide +kernel
theorem qd122_9 : sq_in 122 9 (.iconst 5) 1 := by decide +kernel
theorem qd122_10 : sq_in 122 10 (.iaload) 1 := by decide +kernel
theorem qd122_11 : sq_in 122 11 (.if_icmp .ge 18) 3 := by decide +kernel
theorem qd122_14 : sq_in 122 14 (.iload_n 1) 1 := by decide +kernel
theorem qd122_15 : sq_in 122 15 (.aload_n 0) 1 := by decide +kernel
theorem qd122_16 : sq_in 122 16 (.iload_n 2) 1 := by decide +kernel
theorem qd122_17 : sq_in 122 17 (.iconst 0) 1 := by decide +kernel
theorem qd122_18 : sq_in 122 18 (.invokevirtual 57) 3 := by decide +kernel
theorem qd122_21 : sq_in 122 21 (.iadd) 1 := by decide +kernel
theorem qd122_22 : sq_in 122 22 (.istore_n 1) 1 := by decide +kernel
theorem qd122_23 : sq_in 122 23 (.iinc 2 1) 3 := by decide +kernel
theorem qd122_26 : sq_in 122 26 (.goto (-22)) 3 := by decide +kernel
theorem qd122_29 : sq_in 122 29 (.iload_n 1) 1 := by decide +kernel
theorem qd122_30 : sq_in 122 30 (.ireturn) 1 := by decide +kernel
-- 123: SewingPilesModel.shirtsThat(I)I
theorem qd123_0 : sq_in 123 0 (.iconst 0) 1 := by decide +kernel
theorem qd123_1 : sq_in 123 1 (.istore_n 2) 1 := by decide +kernel
theorem qd123_2 : sq_in 123 2 (.iconst 0) 1 := by decide +kernel
theorem qd123_3 : sq_in 123 3 (.istore_n 3) 1 := by decide +kernel
theorem qd123_4 : sq_in 123 4 (.iload_n 3) 1 := by decide +kernel
theorem qd123_5 : sq_in 123 5 (.aload_n 0) 1 := by decide +kernel
theorem qd123_6 : sq_in 123 6 (.getfield 7) 3 := by decide +kernel
theorem qd123_9 : sq_in 123 9 (.iconst 5) 1 := by decide +kernel
theorem qd123_10 : sq_in 123 10 (.iaload) 1 := by decide +kernel
theorem qd123_11 : sq_in 123 11 (.if_icmp .ge 27) 3 := by decide +kernel
theorem qd123_14 : sq_in 123 14 (.iload_n 2) 1 := by decide +kernel
theorem qd123_15 : sq_in 123 15 (.aload_n 0) 1 := by decide +kernel
theorem qd123_16 : sq_in 123 16 (.iload_n 3) 1 := by decide +kernel
theorem qd123_17 : sq_in 123 17 (.iconst 1) 1 := by decide +kernel
theorem qd123_18 : sq_in 123 18 (.invokevirtual 57) 3 := by decide +kernel
theorem qd123_21 : sq_in 123 21 (.iload_n 1) 1 := by decide +kernel
theorem qd123_22 : sq_in 123 22 (.if_icmp .ne 7) 3 := by decide +kernel
theorem qd123_25 : sq_in 123 25 (.iconst 1) 1 := by decide +kernel
theorem qd123_26 : sq_in 123 26 (.goto 4) 3 := by decide +kernel
theorem qd123_29 : sq_in 123 29 (.iconst 0) 1 := by decide +kernel
theorem qd123_30 : sq_in 123 30 (.iadd) 1 := by decide +kernel
theorem qd123_31 : sq_in 123 31 (.istore_n 2) 1 := by decide +kernel
theorem qd123_32 : sq_in 123 32 (.iinc 3 1) 3 := by decide +kernel
theorem qd123_35 : sq_in 123 35 (.goto (-31)) 3 := by decide +kernel
theorem qd123_38 : sq_in 123 38 (.iload_n 2) 1 := by decide +kernel
theorem qd123_39 : sq_in 123 39 (.ireturn) 1 := by decide +kernel
-- 124: SewingPilesModel.hires(I)I
theorem qd124_0 : sq_in 124 0 (.aload_n 0) 1 := by decide +kernel
theorem qd124_1 : sq_in 124 1 (.getfield 7) 3 := by decide +kernel
theorem qd124_4 : sq_in 124 4 (.iconst 4) 1 := by decide +kernel
theorem qd124_5 : sq_in 124 5 (.iaload) 1 := by decide +kernel
theorem qd124_6 : sq_in 124 6 (.istore_n 2) 1 := by decide +kernel
theorem qd124_7 : sq_in 124 7 (.aload_n 0) 1 := by decide +kernel
theorem qd124_8 : sq_in 124 8 (.getfield 7) 3 := by decide +kernel
theorem qd124_11 : sq_in 124 11 (.iconst 4) 1 := by decide +kernel
theorem qd124_12 : sq_in 124 12 (.dup2) 1 := by decide +kernel
theorem qd124_13 : sq_in 124 13 (.iaload) 1 := by decide +kernel
theorem qd124_14 : sq_in 124 14 (.iconst 1) 1 := by decide +kernel
theorem qd124_15 : sq_in 124 15 (.iadd) 1 := by decide +kernel
theorem qd124_16 : sq_in 124 16 (.iastore) 1 := by decide +kernel
theorem qd124_17 : sq_in 124 17 (.iconst 0) 1 := by decide +kernel
theorem qd124_18 : sq_in 124 18 (.istore_n 3) 1 := by decide +kernel
theorem qd124_19 : sq_in 124 19 (.iload_n 3) 1 := by decide +kernel
theorem qd124_20 : sq_in 124 20 (.bipush 9) 2 := by decide +kernel
theorem qd124_22 : sq_in 124 22 (.if_icmp .ge 24) 3 := by decide +kernel
theorem qd124_25 : sq_in 124 25 (.aload_n 0) 1 := by decide +kernel
theorem qd124_26 : sq_in 124 26 (.iload_n 2) 1 := by decide +kernel
theorem qd124_27 : sq_in 124 27 (.iload_n 3) 1 := by decide +kernel
theorem qd124_28 : sq_in 124 28 (.iload_n 3) 1 := by decide +kernel
theorem qd124_29 : sq_in 124 29 (.ifCond .ne 7) 3 := by decide +kernel
theorem qd124_32 : sq_in 124 32 (.iload_n 1) 1 := by decide +kernel
theorem qd124_33 : sq_in 124 33 (.goto 4) 3 := by decide +kernel
theorem qd124_36 : sq_in 124 36 (.iconst 0) 1 := by decide +kernel
theorem qd124_37 : sq_in 124 37 (.invokevirtual 32) 3 := by decide +kernel
theorem qd124_40 : sq_in 124 40 (.iinc 3 1) 3 := by decide +kernel
theorem qd124_43 : sq_in 124 43 (.goto (-24)) 3 := by decide +kernel
theorem qd124_46 : sq_in 124 46 (.iload_n 2) 1 := by decide +kernel
theorem qd124_47 : sq_in 124 47 (.ireturn) 1 := by decide +kernel
-- 125: SewingPilesModel.hire(I)I
theorem qd125_0 : sq_in 125 0 (.aload_n 0) 1 := by decide +kernel
theorem qd125_1 : sq_in 125 1 (.iconst 0) 1 := by decide +kernel
theorem qd125_2 : sq_in 125 2 (.putfield 28) 3 := by decide +kernel
theorem qd125_5 : sq_in 125 5 (.iload_n 1) 1 := by decide +kernel
theorem qd125_6 : sq_in 125 6 (.iconst 1) 1 := by decide +kernel
theorem qd125_7 : sq_in 125 7 (.bipush 9) 2 := by decide +kernel
theorem qd125_9 : sq_in 125 9 (.invokestatic 36) 3 := by decide +kernel
theorem qd125_12 : sq_in 125 12 (.ifCond .ne 9) 3 := by decide +kernel
theorem qd125_15 : sq_in 125 15 (.aload_n 0) 1 := by decide +kernel
theorem qd125_16 : sq_in 125 16 (.iconst 1) 1 := by decide +kernel
theorem qd125_17 : sq_in 125 17 (.invokevirtual 103) 3 := by decide +kernel
theorem qd125_20 : sq_in 125 20 (.ireturn) 1 := by decide +kernel
theorem qd125_21 : sq_in 125 21 (.aload_n 0) 1 := by decide +kernel
theorem qd125_22 : sq_in 125 22 (.getfield 7) 3 := by decide +kernel
theorem qd125_25 : sq_in 125 25 (.iconst 4) 1 := by decide +kernel
theorem qd125_26 : sq_in 125 26 (.iaload) 1 := by decide +kernel
theorem qd125_27 : sq_in 125 27 (.bipush 6) 2 := by decide +kernel
theorem qd125_29 : sq_in 125 29 (.if_icmp .ne 9) 3 := by decide +kernel
theorem qd125_32 : sq_in 125 32 (.aload_n 0) 1 := by decide +kernel
theorem qd125_33 : sq_in 125 33 (.iconst 2) 1 := by decide +kernel
theorem qd125_34 : sq_in 125 34 (.invokevirtual 103) 3 := by decide +kernel
theorem qd125_37 : sq_in 125 37 (.ireturn) 1 := by decide +kernel
theorem qd125_38 : sq_in 125 38 (.aload_n 0) 1 := by decide +kernel
theorem qd125_39 : sq_in 125 39 (.invokevirtual 106) 3 := by decide +kernel
theorem qd125_42 : sq_in 125 42 (.aload_n 0) 1 := by decide +kernel
theorem qd125_43 : sq_in 125 43 (.iload_n 1) 1 := by decide +kernel
theorem qd125_44 : sq_in 125 44 (.invokevirtual 109) 3 := by decide +kernel
theorem qd125_47 : sq_in 125 47 (.ireturn) 1 := by decide +kernel
-- 126: SewingPilesModel.speed(II)I
theorem qd126_0 : sq_in 126 0 (.aload_n 0) 1 := by decide +kernel
theorem qd126_1 : sq_in 126 1 (.iconst 0) 1 := by decide +kernel
theorem qd126_2 : sq_in 126 2 (.putfield 28) 3 := by decide +kernel
theorem qd126_5 : sq_in 126 5 (.aload_n 0) 1 := by decide +kernel
theorem qd126_6 : sq_in 126 6 (.iload_n 1) 1 := by decide +kernel
theorem qd126_7 : sq_in 126 7 (.invokevirtual 112) 3 := by decide +kernel
theorem qd126_10 : sq_in 126 10 (.ifCond .ne 9) 3 := by decide +kernel
theorem qd126_13 : sq_in 126 13 (.aload_n 0) 1 := by decide +kernel
theorem qd126_14 : sq_in 126 14 (.iconst 1) 1 := by decide +kernel
theorem qd126_15 : sq_in 126 15 (.invokevirtual 103) 3 := by decide +kernel
theorem qd126_18 : sq_in 126 18 (.ireturn) 1 := by decide +kernel
theorem qd126_19 : sq_in 126 19 (.iload_n 2) 1 := by decide +kernel
theorem qd126_20 : sq_in 126 20 (.iconst 1) 1 := by decide +kernel
theorem qd126_21 : sq_in 126 21 (.bipush 9) 2 := by decide +kernel
theorem qd126_23 : sq_in 126 23 (.invokestatic 36) 3 := by decide +kernel
theorem qd126_26 : sq_in 126 26 (.ifCond .ne 9) 3 := by decide +kernel
theorem qd126_29 : sq_in 126 29 (.aload_n 0) 1 := by decide +kernel
theorem qd126_30 : sq_in 126 30 (.iconst 2) 1 := by decide +kernel
theorem qd126_31 : sq_in 126 31 (.invokevirtual 103) 3 := by decide +kernel
theorem qd126_34 : sq_in 126 34 (.ireturn) 1 := by decide +kernel
theorem qd126_35 : sq_in 126 35 (.aload_n 0) 1 := by decide +kernel
theorem qd126_36 : sq_in 126 36 (.invokevirtual 106) 3 := by decide +kernel
theorem qd126_39 : sq_in 126 39 (.aload_n 0) 1 := by decide +kernel
theorem qd126_40 : sq_in 126 40 (.iload_n 1) 1 := by decide +kernel
theorem qd126_41 : sq_in 126 41 (.iconst 0) 1 := by decide +kernel
theorem qd126_42 : sq_in 126 42 (.invokevirtual 43) 3 := by decide +kernel
theorem qd126_45 : sq_in 126 45 (.istore_n 3) 1 := by decide +kernel
theorem qd126_46 : sq_in 126 46 (.aload_n 0) 1 := by decide +kernel
theorem qd126_47 : sq_in 126 47 (.iload_n 1) 1 := by decide +kernel
theorem qd126_48 : sq_in 126 48 (.iconst 0) 1 := by decide +kernel
theorem qd126_49 : sq_in 126 49 (.iload_n 2) 1 := by decide +kernel
theorem qd126_50 : sq_in 126 50 (.invokevirtual 32) 3 := by decide +kernel
theorem qd126_53 : sq_in 126 53 (.iload_n 3) 1 := by decide +kernel
theorem qd126_54 : sq_in 126 54 (.ireturn) 1 := by decide +kernel
-- 127: SewingPilesModel.canLay(I)Z
theorem qd127_0 : sq_in 127 0 (.aload_n 0) 1 := by decide +kernel
theorem qd127_1 : sq_in 127 1 (.iload_n 1) 1 := by decide +kernel
theorem qd127_2 : sq_in 127 2 (.bipush 8) 2 := by decide +kernel
theorem qd127_4 : sq_in 127 4 (.invokevirtual 43) 3 := by decide +kernel
theorem qd127_7 : sq_in 127 7 (.bipush 16) 2 := by decide +kernel
theorem qd127_9 : sq_in 127 9 (.if_icmp .ge 18) 3 := by decide +kernel
theorem qd127_12 : sq_in 127 12 (.aload_n 0) 1 := by decide +kernel
theorem qd127_13 : sq_in 127 13 (.getfield 7) 3 := by decide +kernel
theorem qd127_16 : sq_in 127 16 (.iconst 5) 1 := by decide +kernel
theorem qd127_17 : sq_in 127 17 (.iaload) 1 := by decide +kernel
theorem qd127_18 : sq_in 127 18 (.bipush 120) 2 := by decide +kernel
theorem qd127_20 : sq_in 127 20 (.if_icmp .ge 7) 3 := by decide +kernel
theorem qd127_23 : sq_in 127 23 (.iconst 1) 1 := by decide +kernel
theorem qd127_24 : sq_in 127 24 (.goto 4) 3 := by decide +kernel
theorem qd127_27 : sq_in 127 27 (.iconst 0) 1 := by decide +kernel
theorem qd127_28 : sq_in 127 28 (.ireturn) 1 := by decide +kernel
-- 128: SewingPilesModel.lay(II)I
theorem qd128_0 : sq_in 128 0 (.aload_n 0) 1 := by decide +kernel
theorem qd128_1 : sq_in 128 1 (.iconst 0) 1 := by decide +kernel
theorem qd128_2 : sq_in 128 2 (.putfield 28) 3 := by decide +kernel
theorem qd128_5 : sq_in 128 5 (.aload_n 0) 1 := by decide +kernel
theorem qd128_6 : sq_in 128 6 (.iload_n 1) 1 := by decide +kernel
theorem qd128_7 : sq_in 128 7 (.invokevirtual 112) 3 := by decide +kernel
theorem qd128_10 : sq_in 128 10 (.ifCond .ne 9) 3 := by decide +kernel
theorem qd128_13 : sq_in 128 13 (.aload_n 0) 1 := by decide +kernel
theorem qd128_14 : sq_in 128 14 (.iconst 1) 1 := by decide +kernel
theorem qd128_15 : sq_in 128 15 (.invokevirtual 103) 3 := by decide +kernel
theorem qd128_18 : sq_in 128 18 (.ireturn) 1 := by decide +kernel
theorem qd128_19 : sq_in 128 19 (.iload_n 2) 1 := by decide +kernel
theorem qd128_20 : sq_in 128 20 (.iconst 1) 1 := by decide +kernel
theorem qd128_21 : sq_in 128 21 (.bipush 99) 2 := by decide +kernel
theorem qd128_23 : sq_in 128 23 (.invokestatic 36) 3 := by decide +kernel
theorem qd128_26 : sq_in 128 26 (.ifCond .ne 9) 3 := by decide +kernel
theorem qd128_29 : sq_in 128 29 (.aload_n 0) 1 := by decide +kernel
theorem qd128_30 : sq_in 128 30 (.iconst 2) 1 := by decide +kernel
theorem qd128_31 : sq_in 128 31 (.invokevirtual 103) 3 := by decide +kernel
theorem qd128_34 : sq_in 128 34 (.ireturn) 1 := by decide +kernel
theorem qd128_35 : sq_in 128 35 (.aload_n 0) 1 := by decide +kernel
theorem qd128_36 : sq_in 128 36 (.iload_n 1) 1 := by decide +kernel
theorem qd128_37 : sq_in 128 37 (.invokevirtual 116) 3 := by decide +kernel
theorem qd128_40 : sq_in 128 40 (.ifCond .ne 9) 3 := by decide +kernel
theorem qd128_43 : sq_in 128 43 (.aload_n 0) 1 := by decide +kernel
theorem qd128_44 : sq_in 128 44 (.iconst 3) 1 := by decide +kernel
theorem qd128_45 : sq_in 128 45 (.invokevirtual 103) 3 := by decide +kernel
theorem qd128_48 : sq_in 128 48 (.ireturn) 1 := by decide +kernel
theorem qd128_49 : sq_in 128 49 (.aload_n 0) 1 := by decide +kernel
theorem qd128_50 : sq_in 128 50 (.invokevirtual 106) 3 := by decide +kernel
theorem qd128_53 : sq_in 128 53 (.aload_n 0) 1 := by decide +kernel
theorem qd128_54 : sq_in 128 54 (.iload_n 1) 1 := by decide +kernel
theorem qd128_55 : sq_in 128 55 (.iload_n 2) 1 := by decide +kernel
theorem qd128_56 : sq_in 128 56 (.invokevirtual 60) 3 := by decide +kernel
theorem qd128_59 : sq_in 128 59 (.ireturn) 1 := by decide +kernel
-- 129: SewingPilesModel.wakes(I)I
theorem qd129_0 : sq_in 129 0 (.aload_n 0) 1 := by decide +kernel
theorem qd129_1 : sq_in 129 1 (.iload_n 1) 1 := by decide +kernel
theorem qd129_2 : sq_in 129 2 (.iconst 3) 1 := by decide +kernel
theorem qd129_3 : sq_in 129 3 (.invokevirtual 43) 3 := by decide +kernel
theorem qd129_6 : sq_in 129 6 (.istore_n 2) 1 := by decide +kernel
theorem qd129_7 : sq_in 129 7 (.aload_n 0) 1 := by decide +kernel
theorem qd129_8 : sq_in 129 8 (.iload_n 1) 1 := by decide +kernel
theorem qd129_9 : sq_in 129 9 (.iconst 3) 1 := by decide +kernel
theorem qd129_10 : sq_in 129 10 (.iconst 0) 1 := by decide +kernel
theorem qd129_11 : sq_in 129 11 (.invokevirtual 32) 3 := by decide +kernel
theorem qd129_14 : sq_in 129 14 (.aload_n 0) 1 := by decide +kernel
theorem qd129_15 : sq_in 129 15 (.iload_n 1) 1 := by decide +kernel
theorem qd129_16 : sq_in 129 16 (.iconst 2) 1 := by decide +kernel
theorem qd129_17 : sq_in 129 17 (.iconst 0) 1 := by decide +kernel
theorem qd129_18 : sq_in 129 18 (.invokevirtual 32) 3 := by decide +kernel
theorem qd129_21 : sq_in 129 21 (.iload_n 2) 1 := by decide +kernel
theorem qd129_22 : sq_in 129 22 (.ireturn) 1 := by decide +kernel
-- 130: SewingPilesModel.wake(I)I
theorem qd130_0 : sq_in 130 0 (.aload_n 0) 1 := by decide +kernel
theorem qd130_1 : sq_in 130 1 (.iconst 0) 1 := by decide +kernel
theorem qd130_2 : sq_in 130 2 (.putfield 28) 3 := by decide +kernel
theorem qd130_5 : sq_in 130 5 (.aload_n 0) 1 := by decide +kernel
theorem qd130_6 : sq_in 130 6 (.iload_n 1) 1 := by decide +kernel
theorem qd130_7 : sq_in 130 7 (.invokevirtual 112) 3 := by decide +kernel
theorem qd130_10 : sq_in 130 10 (.ifCond .ne 9) 3 := by decide +kernel
theorem qd130_13 : sq_in 130 13 (.aload_n 0) 1 := by decide +kernel
theorem qd130_14 : sq_in 130 14 (.iconst 1) 1 := by decide +kernel
theorem qd130_15 : sq_in 130 15 (.invokevirtual 103) 3 := by decide +kernel
theorem qd130_18 : sq_in 130 18 (.ireturn) 1 := by decide +kernel
theorem qd130_19 : sq_in 130 19 (.aload_n 0) 1 := by decide +kernel
theorem qd130_20 : sq_in 130 20 (.invokevirtual 106) 3 := by decide +kernel
theorem qd130_23 : sq_in 130 23 (.aload_n 0) 1 := by decide +kernel
theorem qd130_24 : sq_in 130 24 (.iload_n 1) 1 := by decide +kernel
theorem qd130_25 : sq_in 130 25 (.invokevirtual 119) 3 := by decide +kernel
theorem qd130_28 : sq_in 130 28 (.ireturn) 1 := by decide +kernel
-- 131: SewingPilesModel.pass(I)I
theorem qd131_0 : sq_in 131 0 (.aload_n 0) 1 := by decide +kernel
theorem qd131_1 : sq_in 131 1 (.iconst 0) 1 := by decide +kernel
theorem qd131_2 : sq_in 131 2 (.putfield 28) 3 := by decide +kernel
theorem qd131_5 : sq_in 131 5 (.iload_n 1) 1 := by decide +kernel
theorem qd131_6 : sq_in 131 6 (.iconst 1) 1 := by decide +kernel
theorem qd131_7 : sq_in 131 7 (.bipush 99) 2 := by decide +kernel
theorem qd131_9 : sq_in 131 9 (.invokestatic 36) 3 := by decide +kernel
theorem qd131_12 : sq_in 131 12 (.ifCond .ne 9) 3 := by decide +kernel
theorem qd131_15 : sq_in 131 15 (.aload_n 0) 1 := by decide +kernel
theorem qd131_16 : sq_in 131 16 (.iconst 1) 1 := by decide +kernel
theorem qd131_17 : sq_in 131 17 (.invokevirtual 103) 3 := by decide +kernel
theorem qd131_20 : sq_in 131 20 (.ireturn) 1 := by decide +kernel
theorem qd131_21 : sq_in 131 21 (.aload_n 0) 1 := by decide +kernel
theorem qd131_22 : sq_in 131 22 (.invokevirtual 106) 3 := by decide +kernel
theorem qd131_25 : sq_in 131 25 (.aload_n 0) 1 := by decide +kernel
theorem qd131_26 : sq_in 131 26 (.iconst 4) 1 := by decide +kernel
theorem qd131_27 : sq_in 131 27 (.invokevirtual 122) 3 := by decide +kernel
theorem qd131_30 : sq_in 131 30 (.istore_n 2) 1 := by decide +kernel
theorem qd131_31 : sq_in 131 31 (.aload_n 0) 1 := by decide +kernel
theorem qd131_32 : sq_in 131 32 (.iload_n 1) 1 := by decide +kernel
theorem qd131_33 : sq_in 131 33 (.invokevirtual 125) 3 := by decide +kernel
theorem qd131_36 : sq_in 131 36 (.aload_n 0) 1 := by decide +kernel
theorem qd131_37 : sq_in 131 37 (.iconst 4) 1 := by decide +kernel
theorem qd131_38 : sq_in 131 38 (.invokevirtual 122) 3 := by decide +kernel
theorem qd131_41 : sq_in 131 41 (.iload_n 2) 1 := by decide +kernel
theorem qd131_42 : sq_in 131 42 (.isub) 1 := by decide +kernel
theorem qd131_43 : sq_in 131 43 (.ireturn) 1 := by decide +kernel
-- 132: SewingPilesModel.set(II)I
theorem qd132_0 : sq_in 132 0 (.aload_n 0) 1 := by decide +kernel
theorem qd132_1 : sq_in 132 1 (.iconst 0) 1 := by decide +kernel
theorem qd132_2 : sq_in 132 2 (.putfield 28) 3 := by decide +kernel
theorem qd132_5 : sq_in 132 5 (.iload_n 1) 1 := by decide +kernel
theorem qd132_6 : sq_in 132 6 (.iconst 0) 1 := by decide +kernel
theorem qd132_7 : sq_in 132 7 (.iconst 2) 1 := by decide +kernel
theorem qd132_8 : sq_in 132 8 (.invokestatic 36) 3 := by decide +kernel
theorem qd132_11 : sq_in 132 11 (.ifCond .ne 9) 3 := by decide +kernel
theorem qd132_14 : sq_in 132 14 (.aload_n 0) 1 := by decide +kernel
theorem qd132_15 : sq_in 132 15 (.iconst 1) 1 := by decide +kernel
theorem qd132_16 : sq_in 132 16 (.invokevirtual 103) 3 := by decide +kernel
theorem qd132_19 : sq_in 132 19 (.ireturn) 1 := by decide +kernel
theorem qd132_20 : sq_in 132 20 (.iload_n 1) 1 := by decide +kernel
theorem qd132_21 : sq_in 132 21 (.ifCond .ne 13) 3 := by decide +kernel
theorem qd132_24 : sq_in 132 24 (.iload_n 2) 1 := by decide +kernel
theorem qd132_25 : sq_in 132 25 (.iconst 2) 1 := by decide +kernel
theorem qd132_26 : sq_in 132 26 (.bipush 99) 2 := by decide +kernel
theorem qd132_28 : sq_in 132 28 (.invokestatic 36) 3 := by decide +kernel
theorem qd132_31 : sq_in 132 31 (.goto 24) 3 := by decide +kernel
theorem qd132_34 : sq_in 132 34 (.iload_n 1) 1 := by decide +kernel
theorem qd132_35 : sq_in 132 35 (.iconst 1) 1 := by decide +kernel
theorem qd132_36 : sq_in 132 36 (.if_icmp .ne 12) 3 := by decide +kernel
theorem qd132_39 : sq_in 132 39 (.iload_n 2) 1 := by decide +kernel
theorem qd132_40 : sq_in 132 40 (.iconst 0) 1 := by decide +kernel
theorem qd132_41 : sq_in 132 41 (.iconst 2) 1 := by decide +kernel
theorem qd132_42 : sq_in 132 42 (.invokestatic 36) 3 := by decide +kernel
theorem qd132_45 : sq_in 132 45 (.goto 10) 3 := by decide +kernel
theorem qd132_48 : sq_in 132 48 (.iload_n 2) 1 := by decide +kernel
theorem qd132_49 : sq_in 132 49 (.iconst 1) 1 := by decide +kernel
theorem qd132_50 : sq_in 132 50 (.bipush 20) 2 := by decide +kernel
theorem qd132_52 : sq_in 132 52 (.invokestatic 36) 3 := by decide +kernel
theorem qd132_55 : sq_in 132 55 (.istore_n 3) 1 := by decide +kernel
theorem qd132_56 : sq_in 132 56 (.iload_n 3) 1 := by decide +kernel
theorem qd132_57 : sq_in 132 57 (.ifCond .ne 9) 3 := by decide +kernel
theorem qd132_60 : sq_in 132 60 (.aload_n 0) 1 := by decide +kernel
theorem qd132_61 : sq_in 132 61 (.iconst 2) 1 := by decide +kernel
theorem qd132_62 : sq_in 132 62 (.invokevirtual 103) 3 := by decide +kernel
theorem qd132_65 : sq_in 132 65 (.ireturn) 1 := by decide +kernel
theorem qd132_66 : sq_in 132 66 (.aload_n 0) 1 := by decide +kernel
theorem qd132_67 : sq_in 132 67 (.invokevirtual 106) 3 := by decide +kernel
theorem qd132_70 : sq_in 132 70 (.aload_n 0) 1 := by decide +kernel
theorem qd132_71 : sq_in 132 71 (.getfield 7) 3 := by decide +kernel
theorem qd132_74 : sq_in 132 74 (.iload_n 1) 1 := by decide +kernel
theorem qd132_75 : sq_in 132 75 (.iaload) 1 := by decide +kernel
theorem qd132_76 : sq_in 132 76 (.istore 4) 2 := by decide +kernel
theorem qd132_78 : sq_in 132 78 (.aload_n 0) 1 := by decide +kernel
theorem qd132_79 : sq_in 132 79 (.getfield 7) 3 := by decide +kernel
theorem qd132_82 : sq_in 132 82 (.iload_n 1) 1 := by decide +kernel
theorem qd132_83 : sq_in 132 83 (.iload_n 2) 1 := by decide +kernel
theorem qd132_84 : sq_in 132 84 (.iastore) 1 := by decide +kernel
theorem qd132_85 : sq_in 132 85 (.iload 4) 2 := by decide +kernel
theorem qd132_87 : sq_in 132 87 (.ireturn) 1 := by decide +kernel
-- 133: SewingPilesModel.append(I)I
theorem qd133_0 : sq_in 133 0 (.aload_n 0) 1 := by decide +kernel
theorem qd133_1 : sq_in 133 1 (.iconst 0) 1 := by decide +kernel
theorem qd133_2 : sq_in 133 2 (.putfield 28) 3 := by decide +kernel
theorem qd133_5 : sq_in 133 5 (.iload_n 1) 1 := by decide +kernel
theorem qd133_6 : sq_in 133 6 (.bipush 33) 2 := by decide +kernel
theorem qd133_8 : sq_in 133 8 (.bipush 126) 2 := by decide +kernel
theorem qd133_10 : sq_in 133 10 (.invokestatic 36) 3 := by decide +kernel
theorem qd133_13 : sq_in 133 13 (.ifCond .ne 9) 3 := by decide +kernel
theorem qd133_16 : sq_in 133 16 (.aload_n 0) 1 := by decide +kernel
theorem qd133_17 : sq_in 133 17 (.iconst 1) 1 := by decide +kernel
theorem qd133_18 : sq_in 133 18 (.invokevirtual 103) 3 := by decide +kernel
theorem qd133_21 : sq_in 133 21 (.ireturn) 1 := by decide +kernel
theorem qd133_22 : sq_in 133 22 (.aload_n 0) 1 := by decide +kernel
theorem qd133_23 : sq_in 133 23 (.getfield 128) 3 := by decide +kernel
theorem qd133_26 : sq_in 133 26 (.bipush 60) 2 := by decide +kernel
theorem qd133_28 : sq_in 133 28 (.if_icmp .ne 9) 3 := by decide +kernel
theorem qd133_31 : sq_in 133 31 (.aload_n 0) 1 := by decide +kernel
theorem qd133_32 : sq_in 133 32 (.iconst 2) 1 := by decide +kernel
theorem qd133_33 : sq_in 133 33 (.invokevirtual 103) 3 := by decide +kernel
theorem qd133_36 : sq_in 133 36 (.ireturn) 1 := by decide +kernel
theorem qd133_37 : sq_in 133 37 (.aload_n 0) 1 := by decide +kernel
theorem qd133_38 : sq_in 133 38 (.getfield 22) 3 := by decide +kernel
theorem qd133_41 : sq_in 133 41 (.aload_n 0) 1 := by decide +kernel
theorem qd133_42 : sq_in 133 42 (.getfield 128) 3 := by decide +kernel
theorem qd133_45 : sq_in 133 45 (.iload_n 1) 1 := by decide +kernel
theorem qd133_46 : sq_in 133 46 (.iastore) 1 := by decide +kernel
theorem qd133_47 : sq_in 133 47 (.aload_n 0) 1 := by decide +kernel
theorem qd133_48 : sq_in 133 48 (.dup) 1 := by decide +kernel
theorem qd133_49 : sq_in 133 49 (.getfield 128) 3 := by decide +kernel
theorem qd133_52 : sq_in 133 52 (.iconst 1) 1 := by decide +kernel
theorem qd133_53 : sq_in 133 53 (.iadd) 1 := by decide +kernel
theorem qd133_54 : sq_in 133 54 (.putfield 128) 3 := by decide +kernel
theorem qd133_57 : sq_in 133 57 (.aload_n 0) 1 := by decide +kernel
theorem qd133_58 : sq_in 133 58 (.getfield 128) 3 := by decide +kernel
theorem qd133_61 : sq_in 133 61 (.ireturn) 1 := by decide +kernel
-- 134: SewingPilesModel.clearBuffer()I
theorem qd134_0 : sq_in 134 0 (.aload_n 0) 1 := by decide +kernel
theorem qd134_1 : sq_in 134 1 (.iconst 0) 1 := by decide +kernel
theorem qd134_2 : sq_in 134 2 (.putfield 28) 3 := by decide +kernel
theorem qd134_5 : sq_in 134 5 (.aload_n 0) 1 := by decide +kernel
theorem qd134_6 : sq_in 134 6 (.getfield 128) 3 := by decide +kernel
theorem qd134_9 : sq_in 134 9 (.istore_n 1) 1 := by decide +kernel
theorem qd134_10 : sq_in 134 10 (.aload_n 0) 1 := by decide +kernel
theorem qd134_11 : sq_in 134 11 (.iconst 0) 1 := by decide +kernel
theorem qd134_12 : sq_in 134 12 (.putfield 128) 3 := by decide +kernel
theorem qd134_15 : sq_in 134 15 (.iload_n 1) 1 := by decide +kernel
theorem qd134_16 : sq_in 134 16 (.ireturn) 1 := by decide +kernel
-- 135: SewingPilesModel.sign()I
theorem qd135_0 : sq_in 135 0 (.aload_n 0) 1 := by decide +kernel
theorem qd135_1 : sq_in 135 1 (.getfield 131) 3 := by decide +kernel
theorem qd135_4 : sq_in 135 4 (.aload_n 0) 1 := by decide +kernel
theorem qd135_5 : sq_in 135 5 (.getfield 128) 3 := by decide +kernel
theorem qd135_8 : sq_in 135 8 (.if_icmp .ge 15) 3 := by decide +kernel
theorem qd135_11 : sq_in 135 11 (.aload_n 0) 1 := by decide +kernel
theorem qd135_12 : sq_in 135 12 (.getfield 22) 3 := by decide +kernel
theorem qd135_15 : sq_in 135 15 (.aload_n 0) 1 := by decide +kernel
theorem qd135_16 : sq_in 135 16 (.getfield 131) 3 := by decide +kernel
theorem qd135_19 : sq_in 135 19 (.iaload) 1 := by decide +kernel
theorem qd135_20 : sq_in 135 20 (.goto 4) 3 := by decide +kernel
theorem qd135_23 : sq_in 135 23 (.iconst 0) 1 := by decide +kernel
theorem qd135_24 : sq_in 135 24 (.ireturn) 1 := by decide +kernel
-- 136: SewingPilesModel.digit(II)I
theorem qd136_0 : sq_in 136 0 (.aload_n 0) 1 := by decide +kernel
theorem qd136_1 : sq_in 136 1 (.aload_n 0) 1 := by decide +kernel
theorem qd136_2 : sq_in 136 2 (.getfield 134) 3 := by decide +kernel
theorem qd136_5 : sq_in 136 5 (.ifCond .eq 19) 3 := by decide +kernel
theorem qd136_8 : sq_in 136 8 (.aload_n 0) 1 := by decide +kernel
theorem qd136_9 : sq_in 136 9 (.invokevirtual 137) 3 := by decide +kernel
theorem qd136_12 : sq_in 136 12 (.iload_n 1) 1 := by decide +kernel
theorem qd136_13 : sq_in 136 13 (.iload_n 2) 1 := by decide +kernel
theorem qd136_14 : sq_in 136 14 (.invokestatic 36) 3 := by decide +kernel
theorem qd136_17 : sq_in 136 17 (.ifCond .eq 7) 3 := by decide +kernel
theorem qd136_20 : sq_in 136 20 (.iconst 1) 1 := by decide +kernel
theorem qd136_21 : sq_in 136 21 (.goto 4) 3 := by decide +kernel
theorem qd136_24 : sq_in 136 24 (.iconst 0) 1 := by decide +kernel
theorem qd136_25 : sq_in 136 25 (.putfield 134) 3 := by decide +kernel
theorem qd136_28 : sq_in 136 28 (.aload_n 0) 1 := by decide +kernel
theorem qd136_29 : sq_in 136 29 (.invokevirtual 137) 3 := by decide +kernel
theorem qd136_32 : sq_in 136 32 (.bipush 48) 2 := by decide +kernel
theorem qd136_34 : sq_in 136 34 (.isub) 1 := by decide +kernel
theorem qd136_35 : sq_in 136 35 (.istore_n 3) 1 := by decide +kernel
theorem qd136_36 : sq_in 136 36 (.aload_n 0) 1 := by decide +kernel
theorem qd136_37 : sq_in 136 37 (.dup) 1 := by decide +kernel
theorem qd136_38 : sq_in 136 38 (.getfield 131) 3 := by decide +kernel
theorem qd136_41 : sq_in 136 41 (.aload_n 0) 1 := by decide +kernel
theorem qd136_42 : sq_in 136 42 (.getfield 134) 3 := by decide +kernel
theorem qd136_45 : sq_in 136 45 (.ifCond .eq 7) 3 := by decide +kernel
theorem qd136_48 : sq_in 136 48 (.iconst 1) 1 := by decide +kernel
theorem qd136_49 : sq_in 136 49 (.goto 4) 3 := by decide +kernel
theorem qd136_52 : sq_in 136 52 (.iconst 0) 1 := by decide +kernel
theorem qd136_53 : sq_in 136 53 (.iadd) 1 := by decide +kernel
theorem qd136_54 : sq_in 136 54 (.putfield 131) 3 := by decide +kernel
theorem qd136_57 : sq_in 136 57 (.iload_n 3) 1 := by decide +kernel
theorem qd136_58 : sq_in 136 58 (.ireturn) 1 := by decide +kernel
-- 137: SewingPilesModel.number()I
theorem qd137_0 : sq_in 137 0 (.aload_n 0) 1 := by decide +kernel
theorem qd137_1 : sq_in 137 1 (.bipush 49) 2 := by decide +kernel
theorem qd137_3 : sq_in 137 3 (.bipush 57) 2 := by decide +kernel
theorem qd137_5 : sq_in 137 5 (.invokevirtual 141) 3 := by decide +kernel
theorem qd137_8 : sq_in 137 8 (.istore_n 1) 1 := by decide +kernel
theorem qd137_9 : sq_in 137 9 (.aload_n 0) 1 := by decide +kernel
theorem qd137_10 : sq_in 137 10 (.getfield 134) 3 := by decide +kernel
theorem qd137_13 : sq_in 137 13 (.ifCond .eq 31) 3 := by decide +kernel
theorem qd137_16 : sq_in 137 16 (.aload_n 0) 1 := by decide +kernel
theorem qd137_17 : sq_in 137 17 (.invokevirtual 137) 3 := by decide +kernel
theorem qd137_20 : sq_in 137 20 (.bipush 48) 2 := by decide +kernel
theorem qd137_22 : sq_in 137 22 (.bipush 57) 2 := by decide +kernel
theorem qd137_24 : sq_in 137 24 (.invokestatic 36) 3 := by decide +kernel
theorem qd137_27 : sq_in 137 27 (.ifCond .eq 17) 3 := by decide +kernel
theorem qd137_30 : sq_in 137 30 (.bipush 10) 2 := by decide +kernel
theorem qd137_32 : sq_in 137 32 (.iload_n 1) 1 := by decide +kernel
theorem qd137_33 : sq_in 137 33 (.imul) 1 := by decide +kernel
theorem qd137_34 : sq_in 137 34 (.aload_n 0) 1 := by decide +kernel
theorem qd137_35 : sq_in 137 35 (.bipush 48) 2 := by decide +kernel
theorem qd137_37 : sq_in 137 37 (.bipush 57) 2 := by decide +kernel
theorem qd137_39 : sq_in 137 39 (.invokevirtual 141) 3 := by decide +kernel
theorem qd137_42 : sq_in 137 42 (.iadd) 1 := by decide +kernel
theorem qd137_43 : sq_in 137 43 (.istore_n 1) 1 := by decide +kernel
theorem qd137_44 : sq_in 137 44 (.iload_n 1) 1 := by decide +kernel
theorem qd137_45 : sq_in 137 45 (.ireturn) 1 := by decide +kernel
-- 138: SewingPilesModel.readsOrder()V
theorem qd138_0 : sq_in 138 0 (.iconst 3) 1 := by decide +kernel
theorem qd138_1 : sq_in 138 1 (.aload_n 0) 1 := by decide +kernel
theorem qd138_2 : sq_in 138 2 (.getfield 144) 3 := by decide +kernel
theorem qd138_5 : sq_in 138 5 (.imul) 1 := by decide +kernel
theorem qd138_6 : sq_in 138 6 (.istore_n 1) 1 := by decide +kernel
theorem qd138_7 : sq_in 138 7 (.aload_n 0) 1 := by decide +kernel
theorem qd138_8 : sq_in 138 8 (.invokevirtual 137) 3 := by decide +kernel
theorem qd138_11 : sq_in 138 11 (.istore_n 2) 1 := by decide +kernel
theorem qd138_12 : sq_in 138 12 (.aload_n 0) 1 := by decide +kernel
theorem qd138_13 : sq_in 138 13 (.iload_n 2) 1 := by decide +kernel
theorem qd138_14 : sq_in 138 14 (.bipush 108) 2 := by decide +kernel
theorem qd138_16 : sq_in 138 16 (.if_icmp .eq 21) 3 := by decide +kernel
theorem qd138_19 : sq_in 138 19 (.iload_n 2) 1 := by decide +kernel
theorem qd138_20 : sq_in 138 20 (.bipush 118) 2 := by decide +kernel
theorem qd138_22 : sq_in 138 22 (.if_icmp .eq 15) 3 := by decide +kernel
theorem qd138_25 : sq_in 138 25 (.iload_n 2) 1 := by decide +kernel
theorem qd138_26 : sq_in 138 26 (.bipush 119) 2 := by decide +kernel
theorem qd138_28 : sq_in 138 28 (.if_icmp .eq 9) 3 := by decide +kernel
theorem qd138_31 : sq_in 138 31 (.iload_n 2) 1 := by decide +kernel
theorem qd138_32 : sq_in 138 32 (.bipush 109) 2 := by decide +kernel
theorem qd138_34 : sq_in 138 34 (.if_icmp .ne 7) 3 := by decide +kernel
theorem qd138_37 : sq_in 138 37 (.iconst 1) 1 := by decide +kernel
theorem qd138_38 : sq_in 138 38 (.goto 4) 3 := by decide +kernel
theorem qd138_41 : sq_in 138 41 (.iconst 0) 1 := by decide +kernel
theorem qd138_42 : sq_in 138 42 (.putfield 134) 3 := by decide +kernel
theorem qd138_45 : sq_in 138 45 (.aload_n 0) 1 := by decide +kernel
theorem qd138_46 : sq_in 138 46 (.dup) 1 := by decide +kernel
theorem qd138_47 : sq_in 138 47 (.getfield 131) 3 := by decide +kernel
theorem qd138_50 : sq_in 138 50 (.aload_n 0) 1 := by decide +kernel
theorem qd138_51 : sq_in 138 51 (.getfield 134) 3 := by decide +kernel
theorem qd138_54 : sq_in 138 54 (.ifCond .eq 7) 3 := by decide +kernel
theorem qd138_57 : sq_in 138 57 (.iconst 1) 1 := by decide +kernel
theorem qd138_58 : sq_in 138 58 (.goto 4) 3 := by decide +kernel
theorem qd138_61 : sq_in 138 61 (.iconst 0) 1 := by decide +kernel
theorem qd138_62 : sq_in 138 62 (.iadd) 1 := by decide +kernel
theorem qd138_63 : sq_in 138 63 (.putfield 131) 3 := by decide +kernel
theorem qd138_66 : sq_in 138 66 (.aload_n 0) 1 := by decide +kernel
theorem qd138_67 : sq_in 138 67 (.getfield 25) 3 := by decide +kernel
theorem qd138_70 : sq_in 138 70 (.iload_n 1) 1 := by decide +kernel
theorem qd138_71 : sq_in 138 71 (.iload_n 2) 1 := by decide +kernel
theorem qd138_72 : sq_in 138 72 (.iastore) 1 := by decide +kernel
theorem qd138_73 : sq_in 138 73 (.aload_n 0) 1 := by decide +kernel
theorem qd138_74 : sq_in 138 74 (.getfield 25) 3 := by decide +kernel
theorem qd138_77 : sq_in 138 77 (.iload_n 1) 1 := by decide +kernel
theorem qd138_78 : sq_in 138 78 (.iconst 1) 1 := by decide +kernel
theorem qd138_79 : sq_in 138 79 (.iadd) 1 := by decide +kernel
theorem qd138_80 : sq_in 138 80 (.iload_n 2) 1 := by decide +kernel
theorem qd138_81 : sq_in 138 81 (.bipush 109) 2 := by decide +kernel
theorem qd138_83 : sq_in 138 83 (.if_icmp .ne 7) 3 := by decide +kernel
theorem qd138_86 : sq_in 138 86 (.iconst 0) 1 := by decide +kernel
theorem qd138_87 : sq_in 138 87 (.goto 11) 3 := by decide +kernel
theorem qd138_90 : sq_in 138 90 (.aload_n 0) 1 := by decide +kernel
theorem qd138_91 : sq_in 138 91 (.bipush 48) 2 := by decide +kernel
theorem qd138_93 : sq_in 138 93 (.bipush 53) 2 := by decide +kernel
theorem qd138_95 : sq_in 138 95 (.invokevirtual 141) 3 := by decide +kernel
theorem qd138_98 : sq_in 138 98 (.iastore) 1 := by decide +kernel
theorem qd138_99 : sq_in 138 99 (.iload_n 2) 1 := by decide +kernel
theorem qd138_100 : sq_in 138 100 (.bipush 108) 2 := by decide +kernel
theorem qd138_102 : sq_in 138 102 (.if_icmp .ne 49) 3 := by decide +kernel
theorem qd138_105 : sq_in 138 105 (.aload_n 0) 1 := by decide +kernel
theorem qd138_106 : sq_in 138 106 (.aload_n 0) 1 := by decide +kernel
theorem qd138_107 : sq_in 138 107 (.getfield 134) 3 := by decide +kernel
theorem qd138_110 : sq_in 138 110 (.ifCond .eq 16) 3 := by decide +kernel
theorem qd138_113 : sq_in 138 113 (.aload_n 0) 1 := by decide +kernel
theorem qd138_114 : sq_in 138 114 (.invokevirtual 137) 3 := by decide +kernel
theorem qd138_117 : sq_in 138 117 (.bipush 46) 2 := by decide +kernel
theorem qd138_119 : sq_in 138 119 (.if_icmp .ne 7) 3 := by decide +kernel
theorem qd138_122 : sq_in 138 122 (.iconst 1) 1 := by decide +kernel
theorem qd138_123 : sq_in 138 123 (.goto 4) 3 := by decide +kernel
theorem qd138_126 : sq_in 138 126 (.iconst 0) 1 := by decide +kernel
theorem qd138_127 : sq_in 138 127 (.putfield 134) 3 := by decide +kernel
theorem qd138_130 : sq_in 138 130 (.aload_n 0) 1 := by decide +kernel
theorem qd138_131 : sq_in 138 131 (.dup) 1 := by decide +kernel
theorem qd138_132 : sq_in 138 132 (.getfield 131) 3 := by decide +kernel
theorem qd138_135 : sq_in 138 135 (.aload_n 0) 1 := by decide +kernel
theorem qd138_136 : sq_in 138 136 (.getfield 134) 3 := by decide +kernel
theorem qd138_139 : sq_in 138 139 (.ifCond .eq 7) 3 := by decide +kernel
theorem qd138_142 : sq_in 138 142 (.iconst 1) 1 := by decide +kernel
theorem qd138_143 : sq_in 138 143 (.goto 4) 3 := by decide +kernel
theorem qd138_146 : sq_in 138 146 (.iconst 0) 1 := by decide +kernel
theorem qd138_147 : sq_in 138 147 (.iadd) 1 := by decide +kernel
theorem qd138_148 : sq_in 138 148 (.putfield 131) 3 := by decide +kernel
theorem qd138_151 : sq_in 138 151 (.aload_n 0) 1 := by decide +kernel
theorem qd138_152 : sq_in 138 152 (.getfield 25) 3 := by decide +kernel
theorem qd138_155 : sq_in 138 155 (.iload_n 1) 1 := by decide +kernel
theorem qd138_156 : sq_in 138 156 (.iconst 2) 1 := by decide +kernel
theorem qd138_157 : sq_in 138 157 (.iadd) 1 := by decide +kernel
theorem qd138_158 : sq_in 138 158 (.iload_n 2) 1 := by decide +kernel
theorem qd138_159 : sq_in 138 159 (.bipush 118) 2 := by decide +kernel
theorem qd138_161 : sq_in 138 161 (.if_icmp .ne 14) 3 := by decide +kernel
theorem qd138_164 : sq_in 138 164 (.aload_n 0) 1 := by decide +kernel
theorem qd138_165 : sq_in 138 165 (.bipush 49) 2 := by decide +kernel
theorem qd138_167 : sq_in 138 167 (.bipush 57) 2 := by decide +kernel
theorem qd138_169 : sq_in 138 169 (.invokevirtual 141) 3 := by decide +kernel
theorem qd138_172 : sq_in 138 172 (.goto 17) 3 := by decide +kernel
theorem qd138_175 : sq_in 138 175 (.iload_n 2) 1 := by decide +kernel
theorem qd138_176 : sq_in 138 176 (.bipush 119) 2 := by decide +kernel
theorem qd138_178 : sq_in 138 178 (.if_icmp .ne 7) 3 := by decide +kernel
theorem qd138_181 : sq_in 138 181 (.iconst 0) 1 := by decide +kernel
theorem qd138_182 : sq_in 138 182 (.goto 7) 3 := by decide +kernel
theorem qd138_185 : sq_in 138 185 (.aload_n 0) 1 := by decide +kernel
theorem qd138_186 : sq_in 138 186 (.invokevirtual 147) 3 := by decide +kernel
theorem qd138_189 : sq_in 138 189 (.iastore) 1 := by decide +kernel
theorem qd138_190 : sq_in 138 190 (.aload_n 0) 1 := by decide +kernel
theorem qd138_191 : sq_in 138 191 (.dup) 1 := by decide +kernel
theorem qd138_192 : sq_in 138 192 (.getfield 144) 3 := by decide +kernel
theorem qd138_195 : sq_in 138 195 (.aload_n 0) 1 := by decide +kernel
theorem qd138_196 : sq_in 138 196 (.getfield 134) 3 := by decide +kernel
theorem qd138_199 : sq_in 138 199 (.ifCond .eq 7) 3 := by decide +kernel
theorem qd138_202 : sq_in 138 202 (.iconst 1) 1 := by decide +kernel
theorem qd138_203 : sq_in 138 203 (.goto 4) 3 := by decide +kernel
theorem qd138_206 : sq_in 138 206 (.iconst 0) 1 := by decide +kernel
theorem qd138_207 : sq_in 138 207 (.iadd) 1 := by decide +kernel
theorem qd138_208 : sq_in 138 208 (.putfield 144) 3 := by decide +kernel
theorem qd138_211 : sq_in 138 211 (.return_) 1 := by decide +kernel
-- 139: SewingPilesModel.readsAll()V
theorem qd139_0 : sq_in 139 0 (.aload_n 0) 1 := by decide +kernel
theorem qd139_1 : sq_in 139 1 (.iconst 0) 1 := by decide +kernel
theorem qd139_2 : sq_in 139 2 (.putfield 131) 3 := by decide +kernel
theorem qd139_5 : sq_in 139 5 (.aload_n 0) 1 := by decide +kernel
theorem qd139_6 : sq_in 139 6 (.iconst 0) 1 := by decide +kernel
theorem qd139_7 : sq_in 139 7 (.putfield 144) 3 := by decide +kernel
theorem qd139_10 : sq_in 139 10 (.aload_n 0) 1 := by decide +kernel
theorem qd139_11 : sq_in 139 11 (.invokevirtual 150) 3 := by decide +kernel
theorem qd139_14 : sq_in 139 14 (.aload_n 0) 1 := by decide +kernel
theorem qd139_15 : sq_in 139 15 (.getfield 134) 3 := by decide +kernel
theorem qd139_18 : sq_in 139 18 (.ifCond .eq 67) 3 := by decide +kernel
theorem qd139_21 : sq_in 139 21 (.aload_n 0) 1 := by decide +kernel
theorem qd139_22 : sq_in 139 22 (.getfield 131) 3 := by decide +kernel
theorem qd139_25 : sq_in 139 25 (.aload_n 0) 1 := by decide +kernel
theorem qd139_26 : sq_in 139 26 (.getfield 128) 3 := by decide +kernel
theorem qd139_29 : sq_in 139 29 (.if_icmp .ge 56) 3 := by decide +kernel
theorem qd139_32 : sq_in 139 32 (.aload_n 0) 1 := by decide +kernel
theorem qd139_33 : sq_in 139 33 (.aload_n 0) 1 := by decide +kernel
theorem qd139_34 : sq_in 139 34 (.invokevirtual 137) 3 := by decide +kernel
theorem qd139_37 : sq_in 139 37 (.bipush 59) 2 := by decide +kernel
theorem qd139_39 : sq_in 139 39 (.if_icmp .ne 7) 3 := by decide +kernel
theorem qd139_42 : sq_in 139 42 (.iconst 1) 1 := by decide +kernel
theorem qd139_43 : sq_in 139 43 (.goto 4) 3 := by decide +kernel
theorem qd139_46 : sq_in 139 46 (.iconst 0) 1 := by decide +kernel
theorem qd139_47 : sq_in 139 47 (.putfield 134) 3 := by decide +kernel
theorem qd139_50 : sq_in 139 50 (.aload_n 0) 1 := by decide +kernel
theorem qd139_51 : sq_in 139 51 (.dup) 1 := by decide +kernel
theorem qd139_52 : sq_in 139 52 (.getfield 131) 3 := by decide +kernel
theorem qd139_55 : sq_in 139 55 (.aload_n 0) 1 := by decide +kernel
theorem qd139_56 : sq_in 139 56 (.getfield 134) 3 := by decide +kernel
theorem qd139_59 : sq_in 139 59 (.ifCond .eq 7) 3 := by decide +kernel
theorem qd139_62 : sq_in 139 62 (.iconst 1) 1 := by decide +kernel
theorem qd139_63 : sq_in 139 63 (.goto 4) 3 := by decide +kernel
theorem qd139_66 : sq_in 139 66 (.iconst 0) 1 := by decide +kernel
theorem qd139_67 : sq_in 139 67 (.iadd) 1 := by decide +kernel
theorem qd139_68 : sq_in 139 68 (.putfield 131) 3 := by decide +kernel
theorem qd139_71 : sq_in 139 71 (.aload_n 0) 1 := by decide +kernel
theorem qd139_72 : sq_in 139 72 (.getfield 134) 3 := by decide +kernel
theorem qd139_75 : sq_in 139 75 (.ifCond .eq (-61)) 3 := by decide +kernel
theorem qd139_78 : sq_in 139 78 (.aload_n 0) 1 := by decide +kernel
theorem qd139_79 : sq_in 139 79 (.invokevirtual 150) 3 := by decide +kernel
theorem qd139_82 : sq_in 139 82 (.goto (-68)) 3 := by decide +kernel
theorem qd139_85 : sq_in 139 85 (.return_) 1 := by decide +kernel
-- 140: SewingPilesModel.firstError()I
theorem qd140_0 : sq_in 140 0 (.aload_n 0) 1 := by decide +kernel
theorem qd140_1 : sq_in 140 1 (.iconst 0) 1 := by decide +kernel
theorem qd140_2 : sq_in 140 2 (.putfield 28) 3 := by decide +kernel
theorem qd140_5 : sq_in 140 5 (.aload_n 0) 1 := by decide +kernel
theorem qd140_6 : sq_in 140 6 (.invokevirtual 153) 3 := by decide +kernel
theorem qd140_9 : sq_in 140 9 (.aload_n 0) 1 := by decide +kernel
theorem qd140_10 : sq_in 140 10 (.getfield 131) 3 := by decide +kernel
theorem qd140_13 : sq_in 140 13 (.ireturn) 1 := by decide +kernel
-- 141: SewingPilesModel.obeys(I)Z
theorem qd141_0 : sq_in 141 0 (.aload_n 0) 1 := by decide +kernel
theorem qd141_1 : sq_in 141 1 (.getfield 25) 3 := by decide +kernel
theorem qd141_4 : sq_in 141 4 (.iload_n 1) 1 := by decide +kernel
theorem qd141_5 : sq_in 141 5 (.iconst 1) 1 := by decide +kernel
theorem qd141_6 : sq_in 141 6 (.iadd) 1 := by decide +kernel
theorem qd141_7 : sq_in 141 7 (.iaload) 1 := by decide +kernel
theorem qd141_8 : sq_in 141 8 (.istore_n 2) 1 := by decide +kernel
theorem qd141_9 : sq_in 141 9 (.aload_n 0) 1 := by decide +kernel
theorem qd141_10 : sq_in 141 10 (.getfield 25) 3 := by decide +kernel
theorem qd141_13 : sq_in 141 13 (.iload_n 1) 1 := by decide +kernel
theorem qd141_14 : sq_in 141 14 (.iconst 2) 1 := by decide +kernel
theorem qd141_15 : sq_in 141 15 (.iadd) 1 := by decide +kernel
theorem qd141_16 : sq_in 141 16 (.iaload) 1 := by decide +kernel
theorem qd141_17 : sq_in 141 17 (.istore_n 3) 1 := by decide +kernel
theorem qd141_18 : sq_in 141 18 (.aload_n 0) 1 := by decide +kernel
theorem qd141_19 : sq_in 141 19 (.getfield 25) 3 := by decide +kernel
theorem qd141_22 : sq_in 141 22 (.iload_n 1) 1 := by decide +kernel
theorem qd141_23 : sq_in 141 23 (.iaload) 1 := by decide +kernel
theorem qd141_24 : sq_in 141 24 (.bipush 109) 2 := by decide +kernel
theorem qd141_26 : sq_in 141 26 (.if_icmp .eq 30) 3 := by decide +kernel
theorem qd141_29 : sq_in 141 29 (.aload_n 0) 1 := by decide +kernel
theorem qd141_30 : sq_in 141 30 (.iload_n 2) 1 := by decide +kernel
theorem qd141_31 : sq_in 141 31 (.invokevirtual 112) 3 := by decide +kernel
theorem qd141_34 : sq_in 141 34 (.ifCond .eq 26) 3 := by decide +kernel
theorem qd141_37 : sq_in 141 37 (.aload_n 0) 1 := by decide +kernel
theorem qd141_38 : sq_in 141 38 (.getfield 25) 3 := by decide +kernel
theorem qd141_41 : sq_in 141 41 (.iload_n 1) 1 := by decide +kernel
theorem qd141_42 : sq_in 141 42 (.iaload) 1 := by decide +kernel
theorem qd141_43 : sq_in 141 43 (.bipush 108) 2 := by decide +kernel
theorem qd141_45 : sq_in 141 45 (.if_icmp .ne 11) 3 := by decide +kernel
theorem qd141_48 : sq_in 141 48 (.aload_n 0) 1 := by decide +kernel
theorem qd141_49 : sq_in 141 49 (.iload_n 2) 1 := by decide +kernel
theorem qd141_50 : sq_in 141 50 (.invokevirtual 116) 3 := by decide +kernel
theorem qd141_53 : sq_in 141 53 (.ifCond .eq 7) 3 := by decide +kernel
theorem qd141_56 : sq_in 141 56 (.iconst 1) 1 := by decide +kernel
theorem qd141_57 : sq_in 141 57 (.goto 4) 3 := by decide +kernel
theorem qd141_60 : sq_in 141 60 (.iconst 0) 1 := by decide +kernel
theorem qd141_61 : sq_in 141 61 (.istore 4) 2 := by decide +kernel
theorem qd141_63 : sq_in 141 63 (.iload 4) 2 := by decide +kernel
theorem qd141_65 : sq_in 141 65 (.ifCond .eq 77) 3 := by decide +kernel
theorem qd141_68 : sq_in 141 68 (.aload_n 0) 1 := by decide +kernel
theorem qd141_69 : sq_in 141 69 (.getfield 25) 3 := by decide +kernel
theorem qd141_72 : sq_in 141 72 (.iload_n 1) 1 := by decide +kernel
theorem qd141_73 : sq_in 141 73 (.iaload) 1 := by decide +kernel
theorem qd141_74 : sq_in 141 74 (.lookupswitch 63 #[(108, 34), (118, 44), (119, 54)]) 34 := by decide +kernel
theorem qd141_108 : sq_in 141 108 (.aload_n 0) 1 := by decide +kernel
theorem qd141_109 : sq_in 141 109 (.iload_n 2) 1 := by decide +kernel
theorem qd141_110 : sq_in 141 110 (.iload_n 3) 1 := by decide +kernel
theorem qd141_111 : sq_in 141 111 (.invokevirtual 60) 3 := by decide +kernel
theorem qd141_114 : sq_in 141 114 (.pop) 1 := by decide +kernel
theorem qd141_115 : sq_in 141 115 (.goto 27) 3 := by decide +kernel
theorem qd141_118 : sq_in 141 118 (.aload_n 0) 1 := by decide +kernel
theorem qd141_119 : sq_in 141 119 (.iload_n 2) 1 := by decide +kernel
theorem qd141_120 : sq_in 141 120 (.iconst 0) 1 := by decide +kernel
theorem qd141_121 : sq_in 141 121 (.iload_n 3) 1 := by decide +kernel
theorem qd141_122 : sq_in 141 122 (.invokevirtual 32) 3 := by decide +kernel
theorem qd141_125 : sq_in 141 125 (.goto 17) 3 := by decide +kernel
theorem qd141_128 : sq_in 141 128 (.aload_n 0) 1 := by decide +kernel
theorem qd141_129 : sq_in 141 129 (.iload_n 2) 1 := by decide +kernel
theorem qd141_130 : sq_in 141 130 (.invokevirtual 119) 3 := by decide +kernel
theorem qd141_133 : sq_in 141 133 (.pop) 1 := by decide +kernel
theorem qd141_134 : sq_in 141 134 (.goto 8) 3 := by decide +kernel
theorem qd141_137 : sq_in 141 137 (.aload_n 0) 1 := by decide +kernel
theorem qd141_138 : sq_in 141 138 (.iload_n 3) 1 := by decide +kernel
theorem qd141_139 : sq_in 141 139 (.invokevirtual 125) 3 := by decide +kernel
theorem qd141_142 : sq_in 141 142 (.iload 4) 2 := by decide +kernel
theorem qd141_144 : sq_in 141 144 (.ireturn) 1 := by decide +kernel
-- 142: SewingPilesModel.obey()I
theorem qd142_0 : sq_in 142 0 (.aload_n 0) 1 := by decide +kernel
theorem qd142_1 : sq_in 142 1 (.iconst 0) 1 := by decide +kernel
theorem qd142_2 : sq_in 142 2 (.putfield 28) 3 := by decide +kernel
theorem qd142_5 : sq_in 142 5 (.aload_n 0) 1 := by decide +kernel
theorem qd142_6 : sq_in 142 6 (.invokevirtual 153) 3 := by decide +kernel
theorem qd142_9 : sq_in 142 9 (.aload_n 0) 1 := by decide +kernel
theorem qd142_10 : sq_in 142 10 (.getfield 134) 3 := by decide +kernel
theorem qd142_13 : sq_in 142 13 (.ifCond .ne 9) 3 := by decide +kernel
theorem qd142_16 : sq_in 142 16 (.aload_n 0) 1 := by decide +kernel
theorem qd142_17 : sq_in 142 17 (.iconst 1) 1 := by decide +kernel
theorem qd142_18 : sq_in 142 18 (.invokevirtual 103) 3 := by decide +kernel
theorem qd142_21 : sq_in 142 21 (.ireturn) 1 := by decide +kernel
theorem qd142_22 : sq_in 142 22 (.aload_n 0) 1 := by decide +kernel
theorem qd142_23 : sq_in 142 23 (.invokevirtual 106) 3 := by decide +kernel
theorem qd142_26 : sq_in 142 26 (.aload_n 0) 1 := by decide +kernel
theorem qd142_27 : sq_in 142 27 (.iconst 0) 1 := by decide +kernel
theorem qd142_28 : sq_in 142 28 (.putfield 128) 3 := by decide +kernel
theorem qd142_31 : sq_in 142 31 (.iconst 0) 1 := by decide +kernel
theorem qd142_32 : sq_in 142 32 (.istore_n 1) 1 := by decide +kernel
theorem qd142_33 : sq_in 142 33 (.iload_n 1) 1 := by decide +kernel
theorem qd142_34 : sq_in 142 34 (.aload_n 0) 1 := by decide +kernel
theorem qd142_35 : sq_in 142 35 (.getfield 144) 3 := by decide +kernel
theorem qd142_38 : sq_in 142 38 (.if_icmp .ge 19) 3 := by decide +kernel
theorem qd142_41 : sq_in 142 41 (.aload_n 0) 1 := by decide +kernel
theorem qd142_42 : sq_in 142 42 (.iconst 3) 1 := by decide +kernel
theorem qd142_43 : sq_in 142 43 (.iload_n 1) 1 := by decide +kernel
theorem qd142_44 : sq_in 142 44 (.imul) 1 := by decide +kernel
theorem qd142_45 : sq_in 142 45 (.invokevirtual 156) 3 := by decide +kernel
theorem qd142_48 : sq_in 142 48 (.ifCond .eq 9) 3 := by decide +kernel
theorem qd142_51 : sq_in 142 51 (.iinc 1 1) 3 := by decide +kernel
theorem qd142_54 : sq_in 142 54 (.goto (-21)) 3 := by decide +kernel
theorem qd142_57 : sq_in 142 57 (.iload_n 1) 1 := by decide +kernel
theorem qd142_58 : sq_in 142 58 (.ireturn) 1 := by decide +kernel
-- 143: SewingPilesModel.keep()I
theorem qd143_0 : sq_in 143 0 (.aload_n 0) 1 := by decide +kernel
theorem qd143_1 : sq_in 143 1 (.iconst 0) 1 := by decide +kernel
theorem qd143_2 : sq_in 143 2 (.putfield 28) 3 := by decide +kernel
theorem qd143_5 : sq_in 143 5 (.iconst 0) 1 := by decide +kernel
theorem qd143_6 : sq_in 143 6 (.istore_n 1) 1 := by decide +kernel
theorem qd143_7 : sq_in 143 7 (.iload_n 1) 1 := by decide +kernel
theorem qd143_8 : sq_in 143 8 (.sipush 543) 3 := by decide +kernel
theorem qd143_11 : sq_in 143 11 (.if_icmp .ge 21) 3 := by decide +kernel
theorem qd143_14 : sq_in 143 14 (.aload_n 0) 1 := by decide +kernel
theorem qd143_15 : sq_in 143 15 (.getfield 19) 3 := by decide +kernel
theorem qd143_18 : sq_in 143 18 (.iload_n 1) 1 := by decide +kernel
theorem qd143_19 : sq_in 143 19 (.aload_n 0) 1 := by decide +kernel
theorem qd143_20 : sq_in 143 20 (.getfield 7) 3 := by decide +kernel
theorem qd143_23 : sq_in 143 23 (.iload_n 1) 1 := by decide +kernel
theorem qd143_24 : sq_in 143 24 (.iaload) 1 := by decide +kernel
theorem qd143_25 : sq_in 143 25 (.iastore) 1 := by decide +kernel
theorem qd143_26 : sq_in 143 26 (.iinc 1 1) 3 := by decide +kernel
theorem qd143_29 : sq_in 143 29 (.goto (-22)) 3 := by decide +kernel
theorem qd143_32 : sq_in 143 32 (.aload_n 0) 1 := by decide +kernel
theorem qd143_33 : sq_in 143 33 (.iconst 1) 1 := by decide +kernel
theorem qd143_34 : sq_in 143 34 (.putfield 159) 3 := by decide +kernel
theorem qd143_37 : sq_in 143 37 (.aload_n 0) 1 := by decide +kernel
theorem qd143_38 : sq_in 143 38 (.getfield 7) 3 := by decide +kernel
theorem qd143_41 : sq_in 143 41 (.iconst 3) 1 := by decide +kernel
theorem qd143_42 : sq_in 143 42 (.iaload) 1 := by decide +kernel
theorem qd143_43 : sq_in 143 43 (.ireturn) 1 := by decide +kernel
-- 144: SewingPilesModel.goBack()I
theorem qd144_0 : sq_in 144 0 (.aload_n 0) 1 := by decide +kernel
theorem qd144_1 : sq_in 144 1 (.iconst 0) 1 := by decide +kernel
theorem qd144_2 : sq_in 144 2 (.putfield 28) 3 := by decide +kernel
theorem qd144_5 : sq_in 144 5 (.aload_n 0) 1 := by decide +kernel
theorem qd144_6 : sq_in 144 6 (.getfield 159) 3 := by decide +kernel
theorem qd144_9 : sq_in 144 9 (.ifCond .ne 9) 3 := by decide +kernel
theorem qd144_12 : sq_in 144 12 (.aload_n 0) 1 := by decide +kernel
theorem qd144_13 : sq_in 144 13 (.iconst 1) 1 := by decide +kernel
theorem qd144_14 : sq_in 144 14 (.invokevirtual 103) 3 := by decide +kernel
theorem qd144_17 : sq_in 144 17 (.ireturn) 1 := by decide +kernel
theorem qd144_18 : sq_in 144 18 (.aload_n 0) 1 := by decide +kernel
theorem qd144_19 : sq_in 144 19 (.invokevirtual 106) 3 := by decide +kernel
theorem qd144_22 : sq_in 144 22 (.iconst 0) 1 := by decide +kernel
theorem qd144_23 : sq_in 144 23 (.istore_n 1) 1 := by decide +kernel
theorem qd144_24 : sq_in 144 24 (.iload_n 1) 1 := by decide +kernel
theorem qd144_25 : sq_in 144 25 (.sipush 543) 3 := by decide +kernel
theorem qd144_28 : sq_in 144 28 (.if_icmp .ge 21) 3 := by decide +kernel
theorem qd144_31 : sq_in 144 31 (.aload_n 0) 1 := by decide +kernel
theorem qd144_32 : sq_in 144 32 (.getfield 7) 3 := by decide +kernel
theorem qd144_35 : sq_in 144 35 (.iload_n 1) 1 := by decide +kernel
theorem qd144_36 : sq_in 144 36 (.aload_n 0) 1 := by decide +kernel
theorem qd144_37 : sq_in 144 37 (.getfield 19) 3 := by decide +kernel
theorem qd144_40 : sq_in 144 40 (.iload_n 1) 1 := by decide +kernel
theorem qd144_41 : sq_in 144 41 (.iaload) 1 := by decide +kernel
theorem qd144_42 : sq_in 144 42 (.iastore) 1 := by decide +kernel
theorem qd144_43 : sq_in 144 43 (.iinc 1 1) 3 := by decide +kernel
theorem qd144_46 : sq_in 144 46 (.goto (-22)) 3 := by decide +kernel
theorem qd144_49 : sq_in 144 49 (.aload_n 0) 1 := by decide +kernel
theorem qd144_50 : sq_in 144 50 (.getfield 7) 3 := by decide +kernel
theorem qd144_53 : sq_in 144 53 (.iconst 3) 1 := by decide +kernel
theorem qd144_54 : sq_in 144 54 (.iaload) 1 := by decide +kernel
theorem qd144_55 : sq_in 144 55 (.ireturn) 1 := by decide +kernel
-- 145: SewingPilesModel.undo()I
theorem qd145_0 : sq_in 145 0 (.aload_n 0) 1 := by decide +kernel
theorem qd145_1 : sq_in 145 1 (.iconst 0) 1 := by decide +kernel
theorem qd145_2 : sq_in 145 2 (.putfield 28) 3 := by decide +kernel
theorem qd145_5 : sq_in 145 5 (.aload_n 0) 1 := by decide +kernel
theorem qd145_6 : sq_in 145 6 (.getfield 40) 3 := by decide +kernel
theorem qd145_9 : sq_in 145 9 (.ifCond .ne 9) 3 := by decide +kernel
theorem qd145_12 : sq_in 145 12 (.aload_n 0) 1 := by decide +kernel
theorem qd145_13 : sq_in 145 13 (.iconst 1) 1 := by decide +kernel
theorem qd145_14 : sq_in 145 14 (.invokevirtual 103) 3 := by decide +kernel
theorem qd145_17 : sq_in 145 17 (.ireturn) 1 := by decide +kernel
theorem qd145_18 : sq_in 145 18 (.aload_n 0) 1 := by decide +kernel
theorem qd145_19 : sq_in 145 19 (.dup) 1 := by decide +kernel
theorem qd145_20 : sq_in 145 20 (.getfield 40) 3 := by decide +kernel
theorem qd145_23 : sq_in 145 23 (.iconst 1) 1 := by decide +kernel
theorem qd145_24 : sq_in 145 24 (.isub) 1 := by decide +kernel
theorem qd145_25 : sq_in 145 25 (.putfield 40) 3 := by decide +kernel
theorem qd145_28 : sq_in 145 28 (.iconst 0) 1 := by decide +kernel
theorem qd145_29 : sq_in 145 29 (.istore_n 1) 1 := by decide +kernel
theorem qd145_30 : sq_in 145 30 (.iload_n 1) 1 := by decide +kernel
theorem qd145_31 : sq_in 145 31 (.sipush 543) 3 := by decide +kernel
theorem qd145_34 : sq_in 145 34 (.if_icmp .ge 30) 3 := by decide +kernel
theorem qd145_37 : sq_in 145 37 (.aload_n 0) 1 := by decide +kernel
theorem qd145_38 : sq_in 145 38 (.getfield 7) 3 := by decide +kernel
theorem qd145_41 : sq_in 145 41 (.iload_n 1) 1 := by decide +kernel
theorem qd145_42 : sq_in 145 42 (.aload_n 0) 1 := by decide +kernel
theorem qd145_43 : sq_in 145 43 (.getfield 16) 3 := by decide +kernel
theorem qd145_46 : sq_in 145 46 (.sipush 543) 3 := by decide +kernel
theorem qd145_49 : sq_in 145 49 (.aload_n 0) 1 := by decide +kernel
theorem qd145_50 : sq_in 145 50 (.getfield 40) 3 := by decide +kernel
theorem qd145_53 : sq_in 145 53 (.imul) 1 := by decide +kernel
theorem qd145_54 : sq_in 145 54 (.iload_n 1) 1 := by decide +kernel
theorem qd145_55 : sq_in 145 55 (.iadd) 1 := by decide +kernel
theorem qd145_56 : sq_in 145 56 (.iaload) 1 := by decide +kernel
theorem qd145_57 : sq_in 145 57 (.iastore) 1 := by decide +kernel
theorem qd145_58 : sq_in 145 58 (.iinc 1 1) 3 := by decide +kernel
theorem qd145_61 : sq_in 145 61 (.goto (-31)) 3 := by decide +kernel
theorem qd145_64 : sq_in 145 64 (.aload_n 0) 1 := by decide +kernel
theorem qd145_65 : sq_in 145 65 (.getfield 40) 3 := by decide +kernel
theorem qd145_68 : sq_in 145 68 (.ireturn) 1 := by decide +kernel
-- 146: SewingPilesModel.load(I)I
theorem qd146_0 : sq_in 146 0 (.aload_n 0) 1 := by decide +kernel
theorem qd146_1 : sq_in 146 1 (.iload_n 1) 1 := by decide +kernel
theorem qd146_2 : sq_in 146 2 (.iconst 1) 1 := by decide +kernel
theorem qd146_3 : sq_in 146 3 (.invokevirtual 43) 3 := by decide +kernel
theorem qd146_6 : sq_in 146 6 (.ifCond .le 19) 3 := by decide +kernel
theorem qd146_9 : sq_in 146 9 (.aload_n 0) 1 := by decide +kernel
theorem qd146_10 : sq_in 146 10 (.aload_n 0) 1 := by decide +kernel
theorem qd146_11 : sq_in 146 11 (.iload_n 1) 1 := by decide +kernel
theorem qd146_12 : sq_in 146 12 (.iconst 1) 1 := by decide +kernel
theorem qd146_13 : sq_in 146 13 (.invokevirtual 43) 3 := by decide +kernel
theorem qd146_16 : sq_in 146 16 (.iconst 1) 1 := by decide +kernel
theorem qd146_17 : sq_in 146 17 (.isub) 1 := by decide +kernel
theorem qd146_18 : sq_in 146 18 (.iconst 0) 1 := by decide +kernel
theorem qd146_19 : sq_in 146 19 (.invokevirtual 57) 3 := by decide +kernel
theorem qd146_22 : sq_in 146 22 (.goto 4) 3 := by decide +kernel
theorem qd146_25 : sq_in 146 25 (.iconst 0) 1 := by decide +kernel
theorem qd146_26 : sq_in 146 26 (.istore_n 2) 1 := by decide +kernel
theorem qd146_27 : sq_in 146 27 (.iconst 0) 1 := by decide +kernel
theorem qd146_28 : sq_in 146 28 (.istore_n 3) 1 := by decide +kernel
theorem qd146_29 : sq_in 146 29 (.iload_n 3) 1 := by decide +kernel
theorem qd146_30 : sq_in 146 30 (.aload_n 0) 1 := by decide +kernel
theorem qd146_31 : sq_in 146 31 (.iload_n 1) 1 := by decide +kernel
theorem qd146_32 : sq_in 146 32 (.bipush 8) 2 := by decide +kernel
theorem qd146_34 : sq_in 146 34 (.invokevirtual 43) 3 := by decide +kernel
theorem qd146_37 : sq_in 146 37 (.if_icmp .ge 23) 3 := by decide +kernel
theorem qd146_40 : sq_in 146 40 (.iload_n 2) 1 := by decide +kernel
theorem qd146_41 : sq_in 146 41 (.aload_n 0) 1 := by decide +kernel
theorem qd146_42 : sq_in 146 42 (.aload_n 0) 1 := by decide +kernel
theorem qd146_43 : sq_in 146 43 (.iload_n 1) 1 := by decide +kernel
theorem qd146_44 : sq_in 146 44 (.iload_n 3) 1 := by decide +kernel
theorem qd146_45 : sq_in 146 45 (.invokevirtual 63) 3 := by decide +kernel
theorem qd146_48 : sq_in 146 48 (.iconst 0) 1 := by decide +kernel
theorem qd146_49 : sq_in 146 49 (.invokevirtual 57) 3 := by decide +kernel
theorem qd146_52 : sq_in 146 52 (.iadd) 1 := by decide +kernel
theorem qd146_53 : sq_in 146 53 (.istore_n 2) 1 := by decide +kernel
theorem qd146_54 : sq_in 146 54 (.iinc 3 1) 3 := by decide +kernel
theorem qd146_57 : sq_in 146 57 (.goto (-28)) 3 := by decide +kernel
theorem qd146_60 : sq_in 146 60 (.iload_n 2) 1 := by decide +kernel
theorem qd146_61 : sq_in 146 61 (.ireturn) 1 := by decide +kernel
-- 147: SewingPilesModel.tellsWho(II)I
theorem qd147_0 : sq_in 147 0 (.iload_n 2) 1 := by decide +kernel
theorem qd147_1 : sq_in 147 1 (.tableswitch 85 0 9 #[55, 62, 70, 85, 85, 85, 85, 85, 85, 79]) 55 := by decide +kernel
theorem qd147_56 : sq_in 147 56 (.aload_n 0) 1 := by decide +kernel
theorem qd147_57 : sq_in 147 57 (.iload_n 1) 1 := by decide +kernel
theorem qd147_58 : sq_in 147 58 (.iconst 0) 1 := by decide +kernel
theorem qd147_59 : sq_in 147 59 (.invokevirtual 43) 3 := by decide +kernel
theorem qd147_62 : sq_in 147 62 (.ireturn) 1 := by decide +kernel
theorem qd147_63 : sq_in 147 63 (.aload_n 0) 1 := by decide +kernel
theorem qd147_64 : sq_in 147 64 (.iload_n 1) 1 := by decide +kernel
theorem qd147_65 : sq_in 147 65 (.bipush 8) 2 := by decide +kernel
theorem qd147_67 : sq_in 147 67 (.invokevirtual 43) 3 := by decide +kernel
theorem qd147_70 : sq_in 147 70 (.ireturn) 1 := by decide +kernel
theorem qd147_71 : sq_in 147 71 (.aload_n 0) 1 := by decide +kernel
theorem qd147_72 : sq_in 147 72 (.iload_n 1) 1 := by decide +kernel
theorem qd147_73 : sq_in 147 73 (.iconst 1) 1 := by decide +kernel
theorem qd147_74 : sq_in 147 74 (.invokevirtual 43) 3 := by decide +kernel
theorem qd147_77 : sq_in 147 77 (.iconst 1) 1 := by decide +kernel
theorem qd147_78 : sq_in 147 78 (.isub) 1 := by decide +kernel
theorem qd147_79 : sq_in 147 79 (.ireturn) 1 := by decide +kernel
theorem qd147_80 : sq_in 147 80 (.aload_n 0) 1 := by decide +kernel
theorem qd147_81 : sq_in 147 81 (.iload_n 1) 1 := by decide +kernel
theorem qd147_82 : sq_in 147 82 (.invokevirtual 162) 3 := by decide +kernel
theorem qd147_85 : sq_in 147 85 (.ireturn) 1 := by decide +kernel
theorem qd147_86 : sq_in 147 86 (.aload_n 0) 1 := by decide +kernel
theorem qd147_87 : sq_in 147 87 (.iload_n 1) 1 := by decide +kernel
theorem qd147_88 : sq_in 147 88 (.iload_n 2) 1 := by decide +kernel
theorem qd147_89 : sq_in 147 89 (.iconst 1) 1 := by decide +kernel
theorem qd147_90 : sq_in 147 90 (.isub) 1 := by decide +kernel
theorem qd147_91 : sq_in 147 91 (.invokevirtual 43) 3 := by decide +kernel
theorem qd147_94 : sq_in 147 94 (.ireturn) 1 := by decide +kernel
-- 148: SewingPilesModel.seamstress(II)I
theorem qd148_0 : sq_in 148 0 (.aload_n 0) 1 := by decide +kernel
theorem qd148_1 : sq_in 148 1 (.iconst 0) 1 := by decide +kernel
theorem qd148_2 : sq_in 148 2 (.putfield 28) 3 := by decide +kernel
theorem qd148_5 : sq_in 148 5 (.aload_n 0) 1 := by decide +kernel
theorem qd148_6 : sq_in 148 6 (.iload_n 1) 1 := by decide +kernel
theorem qd148_7 : sq_in 148 7 (.invokevirtual 112) 3 := by decide +kernel
theorem qd148_10 : sq_in 148 10 (.ifCond .ne 9) 3 := by decide +kernel
theorem qd148_13 : sq_in 148 13 (.aload_n 0) 1 := by decide +kernel
theorem qd148_14 : sq_in 148 14 (.iconst 1) 1 := by decide +kernel
theorem qd148_15 : sq_in 148 15 (.invokevirtual 103) 3 := by decide +kernel
theorem qd148_18 : sq_in 148 18 (.ireturn) 1 := by decide +kernel
theorem qd148_19 : sq_in 148 19 (.iload_n 2) 1 := by decide +kernel
theorem qd148_20 : sq_in 148 20 (.iconst 0) 1 := by decide +kernel
theorem qd148_21 : sq_in 148 21 (.bipush 9) 2 := by decide +kernel
theorem qd148_23 : sq_in 148 23 (.invokestatic 36) 3 := by decide +kernel
theorem qd148_26 : sq_in 148 26 (.ifCond .eq 12) 3 := by decide +kernel
theorem qd148_29 : sq_in 148 29 (.aload_n 0) 1 := by decide +kernel
theorem qd148_30 : sq_in 148 30 (.iload_n 1) 1 := by decide +kernel
theorem qd148_31 : sq_in 148 31 (.iload_n 2) 1 := by decide +kernel
theorem qd148_32 : sq_in 148 32 (.invokevirtual 165) 3 := by decide +kernel
theorem qd148_35 : sq_in 148 35 (.goto 8) 3 := by decide +kernel
theorem qd148_38 : sq_in 148 38 (.aload_n 0) 1 := by decide +kernel
theorem qd148_39 : sq_in 148 39 (.iconst 2) 1 := by decide +kernel
theorem qd148_40 : sq_in 148 40 (.invokevirtual 103) 3 := by decide +kernel
theorem qd148_43 : sq_in 148 43 (.ireturn) 1 := by decide +kernel
-- 149: SewingPilesModel.pile(II)I
theorem qd149_0 : sq_in 149 0 (.aload_n 0) 1 := by decide +kernel
theorem qd149_1 : sq_in 149 1 (.iconst 0) 1 := by decide +kernel
theorem qd149_2 : sq_in 149 2 (.putfield 28) 3 := by decide +kernel
theorem qd149_5 : sq_in 149 5 (.aload_n 0) 1 := by decide +kernel
theorem qd149_6 : sq_in 149 6 (.iload_n 1) 1 := by decide +kernel
theorem qd149_7 : sq_in 149 7 (.invokevirtual 112) 3 := by decide +kernel
theorem qd149_10 : sq_in 149 10 (.ifCond .ne 9) 3 := by decide +kernel
theorem qd149_13 : sq_in 149 13 (.aload_n 0) 1 := by decide +kernel
theorem qd149_14 : sq_in 149 14 (.iconst 1) 1 := by decide +kernel
theorem qd149_15 : sq_in 149 15 (.invokevirtual 103) 3 := by decide +kernel
theorem qd149_18 : sq_in 149 18 (.ireturn) 1 := by decide +kernel
theorem qd149_19 : sq_in 149 19 (.iload_n 2) 1 := by decide +kernel
theorem qd149_20 : sq_in 149 20 (.ifCond .ge 9) 3 := by decide +kernel
theorem qd149_23 : sq_in 149 23 (.aload_n 0) 1 := by decide +kernel
theorem qd149_24 : sq_in 149 24 (.iconst 2) 1 := by decide +kernel
theorem qd149_25 : sq_in 149 25 (.invokevirtual 103) 3 := by decide +kernel
theorem qd149_28 : sq_in 149 28 (.ireturn) 1 := by decide +kernel
theorem qd149_29 : sq_in 149 29 (.iload_n 2) 1 := by decide +kernel
theorem qd149_30 : sq_in 149 30 (.aload_n 0) 1 := by decide +kernel
theorem qd149_31 : sq_in 149 31 (.iload_n 1) 1 := by decide +kernel
theorem qd149_32 : sq_in 149 32 (.bipush 8) 2 := by decide +kernel
theorem qd149_34 : sq_in 149 34 (.invokevirtual 43) 3 := by decide +kernel
theorem qd149_37 : sq_in 149 37 (.if_icmp .ge 12) 3 := by decide +kernel
theorem qd149_40 : sq_in 149 40 (.aload_n 0) 1 := by decide +kernel
theorem qd149_41 : sq_in 149 41 (.iload_n 1) 1 := by decide +kernel
theorem qd149_42 : sq_in 149 42 (.iload_n 2) 1 := by decide +kernel
theorem qd149_43 : sq_in 149 43 (.invokevirtual 63) 3 := by decide +kernel
theorem qd149_46 : sq_in 149 46 (.goto 4) 3 := by decide +kernel
theorem qd149_49 : sq_in 149 49 (.iconst (-1)) 1 := by decide +kernel
theorem qd149_50 : sq_in 149 50 (.ireturn) 1 := by decide +kernel
-- 150: SewingPilesModel.shirt(II)I
theorem qd150_0 : sq_in 150 0 (.aload_n 0) 1 := by decide +kernel
theorem qd150_1 : sq_in 150 1 (.iconst 0) 1 := by decide +kernel
theorem qd150_2 : sq_in 150 2 (.putfield 28) 3 := by decide +kernel
theorem qd150_5 : sq_in 150 5 (.iload_n 1) 1 := by decide +kernel
theorem qd150_6 : sq_in 150 6 (.iconst 0) 1 := by decide +kernel
theorem qd150_7 : sq_in 150 7 (.aload_n 0) 1 := by decide +kernel
theorem qd150_8 : sq_in 150 8 (.getfield 7) 3 := by decide +kernel
theorem qd150_11 : sq_in 150 11 (.iconst 5) 1 := by decide +kernel
theorem qd150_12 : sq_in 150 12 (.iaload) 1 := by decide +kernel
theorem qd150_13 : sq_in 150 13 (.iconst 1) 1 := by decide +kernel
theorem qd150_14 : sq_in 150 14 (.isub) 1 := by decide +kernel
theorem qd150_15 : sq_in 150 15 (.invokestatic 36) 3 := by decide +kernel
theorem qd150_18 : sq_in 150 18 (.ifCond .ne 9) 3 := by decide +kernel
theorem qd150_21 : sq_in 150 21 (.aload_n 0) 1 := by decide +kernel
theorem qd150_22 : sq_in 150 22 (.iconst 1) 1 := by decide +kernel
theorem qd150_23 : sq_in 150 23 (.invokevirtual 103) 3 := by decide +kernel
theorem qd150_26 : sq_in 150 26 (.ireturn) 1 := by decide +kernel
theorem qd150_27 : sq_in 150 27 (.iload_n 2) 1 := by decide +kernel
theorem qd150_28 : sq_in 150 28 (.iconst 0) 1 := by decide +kernel
theorem qd150_29 : sq_in 150 29 (.iconst 2) 1 := by decide +kernel
theorem qd150_30 : sq_in 150 30 (.invokestatic 36) 3 := by decide +kernel
theorem qd150_33 : sq_in 150 33 (.ifCond .eq 12) 3 := by decide +kernel
theorem qd150_36 : sq_in 150 36 (.aload_n 0) 1 := by decide +kernel
theorem qd150_37 : sq_in 150 37 (.iload_n 1) 1 := by decide +kernel
theorem qd150_38 : sq_in 150 38 (.iload_n 2) 1 := by decide +kernel
theorem qd150_39 : sq_in 150 39 (.invokevirtual 57) 3 := by decide +kernel
theorem qd150_42 : sq_in 150 42 (.goto 8) 3 := by decide +kernel
theorem qd150_45 : sq_in 150 45 (.aload_n 0) 1 := by decide +kernel
theorem qd150_46 : sq_in 150 46 (.iconst 2) 1 := by decide +kernel
theorem qd150_47 : sq_in 150 47 (.invokevirtual 103) 3 := by decide +kernel
theorem qd150_50 : sq_in 150 50 (.ireturn) 1 := by decide +kernel
-- 151: SewingPilesModel.tellsCount(I)I
theorem qd151_0 : sq_in 151 0 (.iload_n 1) 1 := by decide +kernel
theorem qd151_1 : sq_in 151 1 (.tableswitch 126 0 10 #[59, 66, 73, 80, 86, 86, 94, 100, 107, 115, 121]) 59 := by decide +kernel
theorem qd151_60 : sq_in 151 60 (.aload_n 0) 1 := by decide +kernel
theorem qd151_61 : sq_in 151 61 (.getfield 7) 3 := by decide +kernel
theorem qd151_64 : sq_in 151 64 (.iconst 3) 1 := by decide +kernel
theorem qd151_65 : sq_in 151 65 (.iaload) 1 := by decide +kernel
theorem qd151_66 : sq_in 151 66 (.ireturn) 1 := by decide +kernel
theorem qd151_67 : sq_in 151 67 (.aload_n 0) 1 := by decide +kernel
theorem qd151_68 : sq_in 151 68 (.getfield 7) 3 := by decide +kernel
theorem qd151_71 : sq_in 151 71 (.iconst 4) 1 := by decide +kernel
theorem qd151_72 : sq_in 151 72 (.iaload) 1 := by decide +kernel
theorem qd151_73 : sq_in 151 73 (.ireturn) 1 := by decide +kernel
theorem qd151_74 : sq_in 151 74 (.aload_n 0) 1 := by decide +kernel
theorem qd151_75 : sq_in 151 75 (.getfield 7) 3 := by decide +kernel
theorem qd151_78 : sq_in 151 78 (.iconst 5) 1 := by decide +kernel
theorem qd151_79 : sq_in 151 79 (.iaload) 1 := by decide +kernel
theorem qd151_80 : sq_in 151 80 (.ireturn) 1 := by decide +kernel
theorem qd151_81 : sq_in 151 81 (.aload_n 0) 1 := by decide +kernel
theorem qd151_82 : sq_in 151 82 (.iconst 2) 1 := by decide +kernel
theorem qd151_83 : sq_in 151 83 (.invokevirtual 168) 3 := by decide +kernel
theorem qd151_86 : sq_in 151 86 (.ireturn) 1 := by decide +kernel
theorem qd151_87 : sq_in 151 87 (.aload_n 0) 1 := by decide +kernel
theorem qd151_88 : sq_in 151 88 (.iload_n 1) 1 := by decide +kernel
theorem qd151_89 : sq_in 151 89 (.iconst 4) 1 := by decide +kernel
theorem qd151_90 : sq_in 151 90 (.isub) 1 := by decide +kernel
theorem qd151_91 : sq_in 151 91 (.invokevirtual 168) 3 := by decide +kernel
theorem qd151_94 : sq_in 151 94 (.ireturn) 1 := by decide +kernel
theorem qd151_95 : sq_in 151 95 (.aload_n 0) 1 := by decide +kernel
theorem qd151_96 : sq_in 151 96 (.iconst 5) 1 := by decide +kernel
theorem qd151_97 : sq_in 151 97 (.invokevirtual 122) 3 := by decide +kernel
theorem qd151_100 : sq_in 151 100 (.ireturn) 1 := by decide +kernel
theorem qd151_101 : sq_in 151 101 (.aload_n 0) 1 := by decide +kernel
theorem qd151_102 : sq_in 151 102 (.bipush 7) 2 := by decide +kernel
theorem qd151_104 : sq_in 151 104 (.invokevirtual 122) 3 := by decide +kernel
theorem qd151_107 : sq_in 151 107 (.ireturn) 1 := by decide +kernel
theorem qd151_108 : sq_in 151 108 (.aload_n 0) 1 := by decide +kernel
theorem qd151_109 : sq_in 151 109 (.getfield 7) 3 := by decide +kernel
theorem qd151_112 : sq_in 151 112 (.bipush 6) 2 := by decide +kernel
theorem qd151_114 : sq_in 151 114 (.iaload) 1 := by decide +kernel
theorem qd151_115 : sq_in 151 115 (.ireturn) 1 := by decide +kernel
theorem qd151_116 : sq_in 151 116 (.aload_n 0) 1 := by decide +kernel
theorem qd151_117 : sq_in 151 117 (.iconst 3) 1 := by decide +kernel
theorem qd151_118 : sq_in 151 118 (.invokevirtual 122) 3 := by decide +kernel
theorem qd151_121 : sq_in 151 121 (.ireturn) 1 := by decide +kernel
theorem qd151_122 : sq_in 151 122 (.aload_n 0) 1 := by decide +kernel
theorem qd151_123 : sq_in 151 123 (.invokevirtual 171) 3 := by decide +kernel
theorem qd151_126 : sq_in 151 126 (.ireturn) 1 := by decide +kernel
theorem qd151_127 : sq_in 151 127 (.aload_n 0) 1 := by decide +kernel
theorem qd151_128 : sq_in 151 128 (.getfield 40) 3 := by decide +kernel
theorem qd151_131 : sq_in 151 131 (.ireturn) 1 := by decide +kernel
-- 152: SewingPilesModel.count(I)I
theorem qd152_0 : sq_in 152 0 (.aload_n 0) 1 := by decide +kernel
theorem qd152_1 : sq_in 152 1 (.iconst 0) 1 := by decide +kernel
theorem qd152_2 : sq_in 152 2 (.putfield 28) 3 := by decide +kernel
theorem qd152_5 : sq_in 152 5 (.iload_n 1) 1 := by decide +kernel
theorem qd152_6 : sq_in 152 6 (.iconst 0) 1 := by decide +kernel
theorem qd152_7 : sq_in 152 7 (.bipush 11) 2 := by decide +kernel
theorem qd152_9 : sq_in 152 9 (.invokestatic 36) 3 := by decide +kernel
theorem qd152_12 : sq_in 152 12 (.ifCond .eq 11) 3 := by decide +kernel
theorem qd152_15 : sq_in 152 15 (.aload_n 0) 1 := by decide +kernel
theorem qd152_16 : sq_in 152 16 (.iload_n 1) 1 := by decide +kernel
theorem qd152_17 : sq_in 152 17 (.invokevirtual 174) 3 := by decide +kernel
theorem qd152_20 : sq_in 152 20 (.goto 8) 3 := by decide +kernel
theorem qd152_23 : sq_in 152 23 (.aload_n 0) 1 := by decide +kernel
theorem qd152_24 : sq_in 152 24 (.iconst 1) 1 := by decide +kernel
theorem qd152_25 : sq_in 152 25 (.invokevirtual 103) 3 := by decide +kernel
theorem qd152_28 : sq_in 152 28 (.ireturn) 1 := by decide +kernel
-- 153: SewingPilesModel.setting(I)I
theorem qd153_0 : sq_in 153 0 (.aload_n 0) 1 := by decide +kernel
theorem qd153_1 : sq_in 153 1 (.iconst 0) 1 := by decide +kernel
theorem qd153_2 : sq_in 153 2 (.putfield 28) 3 := by decide +kernel
theorem qd153_5 : sq_in 153 5 (.iload_n 1) 1 := by decide +kernel
theorem qd153_6 : sq_in 153 6 (.iconst 0) 1 := by decide +kernel
theorem qd153_7 : sq_in 153 7 (.iconst 2) 1 := by decide +kernel
theorem qd153_8 : sq_in 153 8 (.invokestatic 36) 3 := by decide +kernel
theorem qd153_11 : sq_in 153 11 (.ifCond .eq 12) 3 := by decide +kernel
theorem qd153_14 : sq_in 153 14 (.aload_n 0) 1 := by decide +kernel
theorem qd153_15 : sq_in 153 15 (.getfield 7) 3 := by decide +kernel
theorem qd153_18 : sq_in 153 18 (.iload_n 1) 1 := by decide +kernel
theorem qd153_19 : sq_in 153 19 (.iaload) 1 := by decide +kernel
theorem qd153_20 : sq_in 153 20 (.goto 8) 3 := by decide +kernel
theorem qd153_23 : sq_in 153 23 (.aload_n 0) 1 := by decide +kernel
theorem qd153_24 : sq_in 153 24 (.iconst 1) 1 := by decide +kernel
theorem qd153_25 : sq_in 153 25 (.invokevirtual 103) 3 := by decide +kernel
theorem qd153_28 : sq_in 153 28 (.ireturn) 1 := by decide +kernel
-- 154: SewingPilesModel.choice(I)I
theorem qd154_0 : sq_in 154 0 (.aload_n 0) 1 := by decide +kernel
theorem qd154_1 : sq_in 154 1 (.iconst 0) 1 := by decide +kernel
theorem qd154_2 : sq_in 154 2 (.putfield 28) 3 := by decide +kernel
theorem qd154_5 : sq_in 154 5 (.aload_n 0) 1 := by decide +kernel
theorem qd154_6 : sq_in 154 6 (.iload_n 1) 1 := by decide +kernel
theorem qd154_7 : sq_in 154 7 (.invokevirtual 112) 3 := by decide +kernel
theorem qd154_10 : sq_in 154 10 (.ifCond .eq 11) 3 := by decide +kernel
theorem qd154_13 : sq_in 154 13 (.aload_n 0) 1 := by decide +kernel
theorem qd154_14 : sq_in 154 14 (.iload_n 1) 1 := by decide +kernel
theorem qd154_15 : sq_in 154 15 (.invokevirtual 80) 3 := by decide +kernel
theorem qd154_18 : sq_in 154 18 (.goto 8) 3 := by decide +kernel
theorem qd154_21 : sq_in 154 21 (.aload_n 0) 1 := by decide +kernel
theorem qd154_22 : sq_in 154 22 (.iconst 1) 1 := by decide +kernel
theorem qd154_23 : sq_in 154 23 (.invokevirtual 103) 3 := by decide +kernel
theorem qd154_26 : sq_in 154 26 (.ireturn) 1 := by decide +kernel
-- 155: SewingPilesModel.until()I
theorem qd155_0 : sq_in 155 0 (.iconst 0) 1 := by decide +kernel
theorem qd155_1 : sq_in 155 1 (.istore_n 1) 1 := by decide +kernel
theorem qd155_2 : sq_in 155 2 (.iload_n 1) 1 := by decide +kernel
theorem qd155_3 : sq_in 155 3 (.sipush 2000) 3 := by decide +kernel
theorem qd155_6 : sq_in 155 6 (.if_icmp .ge 27) 3 := by decide +kernel
theorem qd155_9 : sq_in 155 9 (.aload_n 0) 1 := by decide +kernel
theorem qd155_10 : sq_in 155 10 (.iconst 2) 1 := by decide +kernel
theorem qd155_11 : sq_in 155 11 (.invokevirtual 168) 3 := by decide +kernel
theorem qd155_14 : sq_in 155 14 (.aload_n 0) 1 := by decide +kernel
theorem qd155_15 : sq_in 155 15 (.getfield 7) 3 := by decide +kernel
theorem qd155_18 : sq_in 155 18 (.iconst 5) 1 := by decide +kernel
theorem qd155_19 : sq_in 155 19 (.iaload) 1 := by decide +kernel
theorem qd155_20 : sq_in 155 20 (.if_icmp .ge 13) 3 := by decide +kernel
theorem qd155_23 : sq_in 155 23 (.aload_n 0) 1 := by decide +kernel
theorem qd155_24 : sq_in 155 24 (.invokevirtual 100) 3 := by decide +kernel
theorem qd155_27 : sq_in 155 27 (.iinc 1 1) 3 := by decide +kernel
theorem qd155_30 : sq_in 155 30 (.goto (-28)) 3 := by decide +kernel
theorem qd155_33 : sq_in 155 33 (.aload_n 0) 1 := by decide +kernel
theorem qd155_34 : sq_in 155 34 (.iconst 2) 1 := by decide +kernel
theorem qd155_35 : sq_in 155 35 (.invokevirtual 168) 3 := by decide +kernel
theorem qd155_38 : sq_in 155 38 (.aload_n 0) 1 := by decide +kernel
theorem qd155_39 : sq_in 155 39 (.getfield 7) 3 := by decide +kernel
theorem qd155_42 : sq_in 155 42 (.iconst 5) 1 := by decide +kernel
theorem qd155_43 : sq_in 155 43 (.iaload) 1 := by decide +kernel
theorem qd155_44 : sq_in 155 44 (.if_icmp .ne 7) 3 := by decide +kernel
theorem qd155_47 : sq_in 155 47 (.iload_n 1) 1 := by decide +kernel
theorem qd155_48 : sq_in 155 48 (.goto 4) 3 := by decide +kernel
theorem qd155_51 : sq_in 155 51 (.iconst (-1)) 1 := by decide +kernel
theorem qd155_52 : sq_in 155 52 (.ireturn) 1 := by decide +kernel
-- 156: SewingPilesModel.done(ZI)I
theorem qd156_0 : sq_in 156 0 (.aload_n 0) 1 := by decide +kernel
theorem qd156_1 : sq_in 156 1 (.invokevirtual 177) 3 := by decide +kernel
theorem qd156_4 : sq_in 156 4 (.aload_n 0) 1 := by decide +kernel
theorem qd156_5 : sq_in 156 5 (.iload_n 1) 1 := by decide +kernel
theorem qd156_6 : sq_in 156 6 (.putfield 76) 3 := by decide +kernel
theorem qd156_9 : sq_in 156 9 (.iload_n 2) 1 := by decide +kernel
theorem qd156_10 : sq_in 156 10 (.ifCond .le 9) 3 := by decide +kernel
theorem qd156_13 : sq_in 156 13 (.aload_n 0) 1 := by decide +kernel
theorem qd156_14 : sq_in 156 14 (.iload_n 2) 1 := by decide +kernel
theorem qd156_15 : sq_in 156 15 (.invokevirtual 109) 3 := by decide +kernel
theorem qd156_18 : sq_in 156 18 (.pop) 1 := by decide +kernel
theorem qd156_19 : sq_in 156 19 (.aload_n 0) 1 := by decide +kernel
theorem qd156_20 : sq_in 156 20 (.invokevirtual 180) 3 := by decide +kernel
theorem qd156_23 : sq_in 156 23 (.istore_n 3) 1 := by decide +kernel
theorem qd156_24 : sq_in 156 24 (.aload_n 0) 1 := by decide +kernel
theorem qd156_25 : sq_in 156 25 (.iconst 0) 1 := by decide +kernel
theorem qd156_26 : sq_in 156 26 (.putfield 76) 3 := by decide +kernel
theorem qd156_29 : sq_in 156 29 (.aload_n 0) 1 := by decide +kernel
theorem qd156_30 : sq_in 156 30 (.invokevirtual 183) 3 := by decide +kernel
theorem qd156_33 : sq_in 156 33 (.iload_n 3) 1 := by decide +kernel
theorem qd156_34 : sq_in 156 34 (.ireturn) 1 := by decide +kernel
-- 157: SewingPilesModel.doneIn()I
theorem qd157_0 : sq_in 157 0 (.aload_n 0) 1 := by decide +kernel
theorem qd157_1 : sq_in 157 1 (.iconst 0) 1 := by decide +kernel
theorem qd157_2 : sq_in 157 2 (.putfield 28) 3 := by decide +kernel
theorem qd157_5 : sq_in 157 5 (.aload_n 0) 1 := by decide +kernel
theorem qd157_6 : sq_in 157 6 (.iconst 0) 1 := by decide +kernel
theorem qd157_7 : sq_in 157 7 (.iconst 0) 1 := by decide +kernel
theorem qd157_8 : sq_in 157 8 (.invokevirtual 186) 3 := by decide +kernel
theorem qd157_11 : sq_in 157 11 (.ireturn) 1 := by decide +kernel
-- 158: SewingPilesModel.doneAlone()I
theorem qd158_0 : sq_in 158 0 (.aload_n 0) 1 := by decide +kernel
theorem qd158_1 : sq_in 158 1 (.iconst 0) 1 := by decide +kernel
theorem qd158_2 : sq_in 158 2 (.putfield 28) 3 := by decide +kernel
theorem qd158_5 : sq_in 158 5 (.aload_n 0) 1 := by decide +kernel
theorem qd158_6 : sq_in 158 6 (.iconst 1) 1 := by decide +kernel
theorem qd158_7 : sq_in 158 7 (.iconst 0) 1 := by decide +kernel
theorem qd158_8 : sq_in 158 8 (.invokevirtual 186) 3 := by decide +kernel
theorem qd158_11 : sq_in 158 11 (.ireturn) 1 := by decide +kernel
-- 159: SewingPilesModel.doneWith(I)I
theorem qd159_0 : sq_in 159 0 (.aload_n 0) 1 := by decide +kernel
theorem qd159_1 : sq_in 159 1 (.iconst 0) 1 := by decide +kernel
theorem qd159_2 : sq_in 159 2 (.putfield 28) 3 := by decide +kernel
theorem qd159_5 : sq_in 159 5 (.iload_n 1) 1 := by decide +kernel
theorem qd159_6 : sq_in 159 6 (.iconst 1) 1 := by decide +kernel
theorem qd159_7 : sq_in 159 7 (.bipush 9) 2 := by decide +kernel
theorem qd159_9 : sq_in 159 9 (.invokestatic 36) 3 := by decide +kernel
theorem qd159_12 : sq_in 159 12 (.ifCond .eq 12) 3 := by decide +kernel
theorem qd159_15 : sq_in 159 15 (.aload_n 0) 1 := by decide +kernel
theorem qd159_16 : sq_in 159 16 (.iconst 0) 1 := by decide +kernel
theorem qd159_17 : sq_in 159 17 (.iload_n 1) 1 := by decide +kernel
theorem qd159_18 : sq_in 159 18 (.invokevirtual 186) 3 := by decide +kernel
theorem qd159_21 : sq_in 159 21 (.goto 8) 3 := by decide +kernel
theorem qd159_24 : sq_in 159 24 (.aload_n 0) 1 := by decide +kernel
theorem qd159_25 : sq_in 159 25 (.iconst 1) 1 := by decide +kernel
theorem qd159_26 : sq_in 159 26 (.invokevirtual 103) 3 := by decide +kernel
theorem qd159_29 : sq_in 159 29 (.ireturn) 1 := by decide +kernel
-- 160: SewingPilesModel.would(II)I
theorem qd160_0 : sq_in 160 0 (.iload_n 2) 1 := by decide +kernel
theorem qd160_1 : sq_in 160 1 (.ifCond .ne 7) 3 := by decide +kernel
theorem qd160_4 : sq_in 160 4 (.iconst 4) 1 := by decide +kernel
theorem qd160_5 : sq_in 160 5 (.goto 14) 3 := by decide +kernel
theorem qd160_8 : sq_in 160 8 (.iload_n 2) 1 := by decide +kernel
theorem qd160_9 : sq_in 160 9 (.iconst 1) 1 := by decide +kernel
theorem qd160_10 : sq_in 160 10 (.if_icmp .ne 7) 3 := by decide +kernel
theorem qd160_13 : sq_in 160 13 (.iconst 5) 1 := by decide +kernel
theorem qd160_14 : sq_in 160 14 (.goto 5) 3 := by decide +kernel
theorem qd160_17 : sq_in 160 17 (.bipush 7) 2 := by decide +kernel
theorem qd160_19 : sq_in 160 19 (.istore_n 3) 1 := by decide +kernel
theorem qd160_20 : sq_in 160 20 (.aload_n 0) 1 := by decide +kernel
theorem qd160_21 : sq_in 160 21 (.invokevirtual 177) 3 := by decide +kernel
theorem qd160_24 : sq_in 160 24 (.aload_n 0) 1 := by decide +kernel
theorem qd160_25 : sq_in 160 25 (.iload_n 3) 1 := by decide +kernel
theorem qd160_26 : sq_in 160 26 (.invokevirtual 122) 3 := by decide +kernel
theorem qd160_29 : sq_in 160 29 (.istore 4) 2 := by decide +kernel
theorem qd160_31 : sq_in 160 31 (.aload_n 0) 1 := by decide +kernel
theorem qd160_32 : sq_in 160 32 (.iload_n 1) 1 := by decide +kernel
theorem qd160_33 : sq_in 160 33 (.invokevirtual 125) 3 := by decide +kernel
theorem qd160_36 : sq_in 160 36 (.iload_n 2) 1 := by decide +kernel
theorem qd160_37 : sq_in 160 37 (.iconst 3) 1 := by decide +kernel
theorem qd160_38 : sq_in 160 38 (.if_icmp .ne 10) 3 := by decide +kernel
theorem qd160_41 : sq_in 160 41 (.aload_n 0) 1 := by decide +kernel
theorem qd160_42 : sq_in 160 42 (.invokevirtual 171) 3 := by decide +kernel
theorem qd160_45 : sq_in 160 45 (.goto 11) 3 := by decide +kernel
theorem qd160_48 : sq_in 160 48 (.aload_n 0) 1 := by decide +kernel
theorem qd160_49 : sq_in 160 49 (.iload_n 3) 1 := by decide +kernel
theorem qd160_50 : sq_in 160 50 (.invokevirtual 122) 3 := by decide +kernel
theorem qd160_53 : sq_in 160 53 (.iload 4) 2 := by decide +kernel
theorem qd160_55 : sq_in 160 55 (.isub) 1 := by decide +kernel
theorem qd160_56 : sq_in 160 56 (.istore 5) 2 := by decide +kernel
theorem qd160_58 : sq_in 160 58 (.aload_n 0) 1 := by decide +kernel
theorem qd160_59 : sq_in 160 59 (.invokevirtual 183) 3 := by decide +kernel
theorem qd160_62 : sq_in 160 62 (.iload 5) 2 := by decide +kernel
theorem qd160_64 : sq_in 160 64 (.ireturn) 1 := by decide +kernel
-- 161: SewingPilesModel.ifPassed(II)I
theorem qd161_0 : sq_in 161 0 (.aload_n 0) 1 := by decide +kernel
theorem qd161_1 : sq_in 161 1 (.iconst 0) 1 := by decide +kernel
theorem qd161_2 : sq_in 161 2 (.putfield 28) 3 := by decide +kernel
theorem qd161_5 : sq_in 161 5 (.iload_n 1) 1 := by decide +kernel
theorem qd161_6 : sq_in 161 6 (.iconst 1) 1 := by decide +kernel
theorem qd161_7 : sq_in 161 7 (.sipush 200) 3 := by decide +kernel
theorem qd161_10 : sq_in 161 10 (.invokestatic 36) 3 := by decide +kernel
theorem qd161_13 : sq_in 161 13 (.ifCond .eq 21) 3 := by decide +kernel
theorem qd161_16 : sq_in 161 16 (.iload_n 2) 1 := by decide +kernel
theorem qd161_17 : sq_in 161 17 (.iconst 0) 1 := by decide +kernel
theorem qd161_18 : sq_in 161 18 (.iconst 3) 1 := by decide +kernel
theorem qd161_19 : sq_in 161 19 (.invokestatic 36) 3 := by decide +kernel
theorem qd161_22 : sq_in 161 22 (.ifCond .eq 12) 3 := by decide +kernel
theorem qd161_25 : sq_in 161 25 (.aload_n 0) 1 := by decide +kernel
theorem qd161_26 : sq_in 161 26 (.iload_n 1) 1 := by decide +kernel
theorem qd161_27 : sq_in 161 27 (.iload_n 2) 1 := by decide +kernel
theorem qd161_28 : sq_in 161 28 (.invokevirtual 190) 3 := by decide +kernel
theorem qd161_31 : sq_in 161 31 (.goto 8) 3 := by decide +kernel
theorem qd161_34 : sq_in 161 34 (.aload_n 0) 1 := by decide +kernel
theorem qd161_35 : sq_in 161 35 (.iconst 1) 1 := by decide +kernel
theorem qd161_36 : sq_in 161 36 (.invokevirtual 103) 3 := by decide +kernel
theorem qd161_39 : sq_in 161 39 (.ireturn) 1 := by decide +kernel
-- 162: SewingPilesModel.share()D
theorem qd162_0 : sq_in 162 0 (.aload_n 0) 1 := by decide +kernel
theorem qd162_1 : sq_in 162 1 (.getfield 7) 3 := by decide +kernel
theorem qd162_4 : sq_in 162 4 (.bipush 7) 2 := by decide +kernel
theorem qd162_6 : sq_in 162 6 (.iaload) 1 := by decide +kernel
theorem qd162_7 : sq_in 162 7 (.ifCond .ne 7) 3 := by decide +kernel
theorem qd162_10 : sq_in 162 10 (.dconst 0) 1 := by decide +kernel
theorem qd162_11 : sq_in 162 11 (.goto 18) 3 := by decide +kernel
theorem qd162_14 : sq_in 162 14 (.aload_n 0) 1 := by decide +kernel
theorem qd162_15 : sq_in 162 15 (.iconst 5) 1 := by decide +kernel
theorem qd162_16 : sq_in 162 16 (.invokevirtual 122) 3 := by decide +kernel
theorem qd162_19 : sq_in 162 19 (.i2d) 1 := by decide +kernel
theorem qd162_20 : sq_in 162 20 (.aload_n 0) 1 := by decide +kernel
theorem qd162_21 : sq_in 162 21 (.getfield 7) 3 := by decide +kernel
theorem qd162_24 : sq_in 162 24 (.bipush 7) 2 := by decide +kernel
theorem qd162_26 : sq_in 162 26 (.iaload) 1 := by decide +kernel
theorem qd162_27 : sq_in 162 27 (.i2d) 1 := by decide +kernel
theorem qd162_28 : sq_in 162 28 (.ddiv) 1 := by decide +kernel
theorem qd162_29 : sq_in 162 29 (.dreturn) 1 := by decide +kernel
-- 163: SewingPilesModel.takenShare()D
theorem qd163_0 : sq_in 163 0 (.aload_n 0) 1 := by decide +kernel
theorem qd163_1 : sq_in 163 1 (.iconst 0) 1 := by decide +kernel
theorem qd163_2 : sq_in 163 2 (.putfield 28) 3 := by decide +kernel
theorem qd163_5 : sq_in 163 5 (.aload_n 0) 1 := by decide +kernel
theorem qd163_6 : sq_in 163 6 (.invokevirtual 193) 3 := by decide +kernel
theorem qd163_9 : sq_in 163 9 (.dreturn) 1 := by decide +kernel
-- 164: SewingPilesModel.even()F
theorem qd164_0 : sq_in 164 0 (.aload_n 0) 1 := by decide +kernel
theorem qd164_1 : sq_in 164 1 (.iconst 0) 1 := by decide +kernel
theorem qd164_2 : sq_in 164 2 (.invokevirtual 162) 3 := by decide +kernel
theorem qd164_5 : sq_in 164 5 (.istore_n 1) 1 := by decide +kernel
theorem qd164_6 : sq_in 164 6 (.aload_n 0) 1 := by decide +kernel
theorem qd164_7 : sq_in 164 7 (.iconst 0) 1 := by decide +kernel
theorem qd164_8 : sq_in 164 8 (.invokevirtual 162) 3 := by decide +kernel
theorem qd164_11 : sq_in 164 11 (.istore_n 2) 1 := by decide +kernel
theorem qd164_12 : sq_in 164 12 (.iconst 1) 1 := by decide +kernel
theorem qd164_13 : sq_in 164 13 (.istore_n 3) 1 := by decide +kernel
theorem qd164_14 : sq_in 164 14 (.iload_n 3) 1 := by decide +kernel
theorem qd164_15 : sq_in 164 15 (.aload_n 0) 1 := by decide +kernel
theorem qd164_16 : sq_in 164 16 (.getfield 7) 3 := by decide +kernel
theorem qd164_19 : sq_in 164 19 (.iconst 4) 1 := by decide +kernel
theorem qd164_20 : sq_in 164 20 (.iaload) 1 := by decide +kernel
theorem qd164_21 : sq_in 164 21 (.if_icmp .ge 47) 3 := by decide +kernel
theorem qd164_24 : sq_in 164 24 (.aload_n 0) 1 := by decide +kernel
theorem qd164_25 : sq_in 164 25 (.iload_n 3) 1 := by decide +kernel
theorem qd164_26 : sq_in 164 26 (.invokevirtual 162) 3 := by decide +kernel
theorem qd164_29 : sq_in 164 29 (.iload_n 1) 1 := by decide +kernel
theorem qd164_30 : sq_in 164 30 (.if_icmp .ge 11) 3 := by decide +kernel
theorem qd164_33 : sq_in 164 33 (.aload_n 0) 1 := by decide +kernel
theorem qd164_34 : sq_in 164 34 (.iload_n 3) 1 := by decide +kernel
theorem qd164_35 : sq_in 164 35 (.invokevirtual 162) 3 := by decide +kernel
theorem qd164_38 : sq_in 164 38 (.goto 4) 3 := by decide +kernel
theorem qd164_41 : sq_in 164 41 (.iload_n 1) 1 := by decide +kernel
theorem qd164_42 : sq_in 164 42 (.istore_n 1) 1 := by decide +kernel
theorem qd164_43 : sq_in 164 43 (.aload_n 0) 1 := by decide +kernel
theorem qd164_44 : sq_in 164 44 (.iload_n 3) 1 := by decide +kernel
theorem qd164_45 : sq_in 164 45 (.invokevirtual 162) 3 := by decide +kernel
theorem qd164_48 : sq_in 164 48 (.iload_n 2) 1 := by decide +kernel
theorem qd164_49 : sq_in 164 49 (.if_icmp .le 11) 3 := by decide +kernel
theorem qd164_52 : sq_in 164 52 (.aload_n 0) 1 := by decide +kernel
theorem qd164_53 : sq_in 164 53 (.iload_n 3) 1 := by decide +kernel
theorem qd164_54 : sq_in 164 54 (.invokevirtual 162) 3 := by decide +kernel
theorem qd164_57 : sq_in 164 57 (.goto 4) 3 := by decide +kernel
theorem qd164_60 : sq_in 164 60 (.iload_n 2) 1 := by decide +kernel
theorem qd164_61 : sq_in 164 61 (.istore_n 2) 1 := by decide +kernel
theorem qd164_62 : sq_in 164 62 (.iinc 3 1) 3 := by decide +kernel
theorem qd164_65 : sq_in 164 65 (.goto (-51)) 3 := by decide +kernel
theorem qd164_68 : sq_in 164 68 (.iload_n 2) 1 := by decide +kernel
theorem qd164_69 : sq_in 164 69 (.ifCond .ne 7) 3 := by decide +kernel
theorem qd164_72 : sq_in 164 72 (.fconst 1) 1 := by decide +kernel
theorem qd164_73 : sq_in 164 73 (.goto 8) 3 := by decide +kernel
theorem qd164_76 : sq_in 164 76 (.iload_n 1) 1 := by decide +kernel
theorem qd164_77 : sq_in 164 77 (.i2f) 1 := by decide +kernel
theorem qd164_78 : sq_in 164 78 (.iload_n 2) 1 := by decide +kernel
theorem qd164_79 : sq_in 164 79 (.i2f) 1 := by decide +kernel
theorem qd164_80 : sq_in 164 80 (.fdiv) 1 := by decide +kernel
theorem qd164_81 : sq_in 164 81 (.freturn) 1 := by decide +kernel
-- 165: SewingPilesModel.evenness()F
theorem qd165_0 : sq_in 165 0 (.aload_n 0) 1 := by decide +kernel
theorem qd165_1 : sq_in 165 1 (.iconst 0) 1 := by decide +kernel
theorem qd165_2 : sq_in 165 2 (.putfield 28) 3 := by decide +kernel
theorem qd165_5 : sq_in 165 5 (.aload_n 0) 1 := by decide +kernel
theorem qd165_6 : sq_in 165 6 (.invokevirtual 197) 3 := by decide +kernel
theorem qd165_9 : sq_in 165 9 (.freturn) 1 := by decide +kernel
-- 166: SewingPilesModel.hashes(J)V
theorem qd166_0 : sq_in 166 0 (.aload_n 0) 1 := by decide +kernel
theorem qd166_1 : sq_in 166 1 (.ldc2_w 201) 3 := by decide +kernel
theorem qd166_4 : sq_in 166 4 (.aload_n 0) 1 := by decide +kernel
theorem qd166_5 : sq_in 166 5 (.getfield 203) 3 := by decide +kernel
theorem qd166_8 : sq_in 166 8 (.lmul) 1 := by decide +kernel
theorem qd166_9 : sq_in 166 9 (.lload_n 1) 1 := by decide +kernel
theorem qd166_10 : sq_in 166 10 (.ladd) 1 := by decide +kernel
theorem qd166_11 : sq_in 166 11 (.putfield 203) 3 := by decide +kernel
theorem qd166_14 : sq_in 166 14 (.return_) 1 := by decide +kernel
-- 167: SewingPilesModel.hashesWho(I)V
theorem qd167_0 : sq_in 167 0 (.iconst 0) 1 := by decide +kernel
theorem qd167_1 : sq_in 167 1 (.istore_n 2) 1 := by decide +kernel
theorem qd167_2 : sq_in 167 2 (.iload_n 2) 1 := by decide +kernel
theorem qd167_3 : sq_in 167 3 (.bipush 10) 2 := by decide +kernel
theorem qd167_5 : sq_in 167 5 (.if_icmp .ge 20) 3 := by decide +kernel
theorem qd167_8 : sq_in 167 8 (.aload_n 0) 1 := by decide +kernel
theorem qd167_9 : sq_in 167 9 (.aload_n 0) 1 := by decide +kernel
theorem qd167_10 : sq_in 167 10 (.iload_n 1) 1 := by decide +kernel
theorem qd167_11 : sq_in 167 11 (.iload_n 2) 1 := by decide +kernel
theorem qd167_12 : sq_in 167 12 (.invokevirtual 165) 3 := by decide +kernel
theorem qd167_15 : sq_in 167 15 (.i2l) 1 := by decide +kernel
theorem qd167_16 : sq_in 167 16 (.invokevirtual 207) 3 := by decide +kernel
theorem qd167_19 : sq_in 167 19 (.iinc 2 1) 3 := by decide +kernel
theorem qd167_22 : sq_in 167 22 (.goto (-20)) 3 := by decide +kernel
theorem qd167_25 : sq_in 167 25 (.iconst 0) 1 := by decide +kernel
theorem qd167_26 : sq_in 167 26 (.istore_n 2) 1 := by decide +kernel
theorem qd167_27 : sq_in 167 27 (.iload_n 2) 1 := by decide +kernel
theorem qd167_28 : sq_in 167 28 (.aload_n 0) 1 := by decide +kernel
theorem qd167_29 : sq_in 167 29 (.iload_n 1) 1 := by decide +kernel
theorem qd167_30 : sq_in 167 30 (.bipush 8) 2 := by decide +kernel
theorem qd167_32 : sq_in 167 32 (.invokevirtual 43) 3 := by decide +kernel
theorem qd167_35 : sq_in 167 35 (.if_icmp .ge 20) 3 := by decide +kernel
theorem qd167_38 : sq_in 167 38 (.aload_n 0) 1 := by decide +kernel
theorem qd167_39 : sq_in 167 39 (.aload_n 0) 1 := by decide +kernel
theorem qd167_40 : sq_in 167 40 (.iload_n 1) 1 := by decide +kernel
theorem qd167_41 : sq_in 167 41 (.iload_n 2) 1 := by decide +kernel
theorem qd167_42 : sq_in 167 42 (.invokevirtual 63) 3 := by decide +kernel
theorem qd167_45 : sq_in 167 45 (.i2l) 1 := by decide +kernel
theorem qd167_46 : sq_in 167 46 (.invokevirtual 207) 3 := by decide +kernel
theorem qd167_49 : sq_in 167 49 (.iinc 2 1) 3 := by decide +kernel
theorem qd167_52 : sq_in 167 52 (.goto (-25)) 3 := by decide +kernel
theorem qd167_55 : sq_in 167 55 (.aload_n 0) 1 := by decide +kernel
theorem qd167_56 : sq_in 167 56 (.aload_n 0) 1 := by decide +kernel
theorem qd167_57 : sq_in 167 57 (.iload_n 1) 1 := by decide +kernel
theorem qd167_58 : sq_in 167 58 (.invokevirtual 80) 3 := by decide +kernel
theorem qd167_61 : sq_in 167 61 (.i2l) 1 := by decide +kernel
theorem qd167_62 : sq_in 167 62 (.invokevirtual 207) 3 := by decide +kernel
theorem qd167_65 : sq_in 167 65 (.return_) 1 := by decide +kernel
-- 168: SewingPilesModel.digest()J
theorem qd168_0 : sq_in 168 0 (.aload_n 0) 1 := by decide +kernel
theorem qd168_1 : sq_in 168 1 (.iconst 0) 1 := by decide +kernel
theorem qd168_2 : sq_in 168 2 (.putfield 28) 3 := by decide +kernel
theorem qd168_5 : sq_in 168 5 (.aload_n 0) 1 := by decide +kernel
theorem qd168_6 : sq_in 168 6 (.ldc2_w 211) 3 := by decide +kernel
theorem qd168_9 : sq_in 168 9 (.putfield 203) 3 := by decide +kernel
theorem qd168_12 : sq_in 168 12 (.iconst 0) 1 := by decide +kernel
theorem qd168_13 : sq_in 168 13 (.istore_n 1) 1 := by decide +kernel
theorem qd168_14 : sq_in 168 14 (.iload_n 1) 1 := by decide +kernel
theorem qd168_15 : sq_in 168 15 (.bipush 12) 2 := by decide +kernel
theorem qd168_17 : sq_in 168 17 (.if_icmp .ge 19) 3 := by decide +kernel
theorem qd168_20 : sq_in 168 20 (.aload_n 0) 1 := by decide +kernel
theorem qd168_21 : sq_in 168 21 (.aload_n 0) 1 := by decide +kernel
theorem qd168_22 : sq_in 168 22 (.iload_n 1) 1 := by decide +kernel
theorem qd168_23 : sq_in 168 23 (.invokevirtual 174) 3 := by decide +kernel
theorem qd168_26 : sq_in 168 26 (.i2l) 1 := by decide +kernel
theorem qd168_27 : sq_in 168 27 (.invokevirtual 207) 3 := by decide +kernel
theorem qd168_30 : sq_in 168 30 (.iinc 1 1) 3 := by decide +kernel
theorem qd168_33 : sq_in 168 33 (.goto (-19)) 3 := by decide +kernel
theorem qd168_36 : sq_in 168 36 (.iconst 0) 1 := by decide +kernel
theorem qd168_37 : sq_in 168 37 (.istore_n 1) 1 := by decide +kernel
theorem qd168_38 : sq_in 168 38 (.iload_n 1) 1 := by decide +kernel
theorem qd168_39 : sq_in 168 39 (.iconst 3) 1 := by decide +kernel
theorem qd168_40 : sq_in 168 40 (.if_icmp .ge 20) 3 := by decide +kernel
theorem qd168_43 : sq_in 168 43 (.aload_n 0) 1 := by decide +kernel
theorem qd168_44 : sq_in 168 44 (.aload_n 0) 1 := by decide +kernel
theorem qd168_45 : sq_in 168 45 (.getfield 7) 3 := by decide +kernel
theorem qd168_48 : sq_in 168 48 (.iload_n 1) 1 := by decide +kernel
theorem qd168_49 : sq_in 168 49 (.iaload) 1 := by decide +kernel
theorem qd168_50 : sq_in 168 50 (.i2l) 1 := by decide +kernel
theorem qd168_51 : sq_in 168 51 (.invokevirtual 207) 3 := by decide +kernel
theorem qd168_54 : sq_in 168 54 (.iinc 1 1) 3 := by decide +kernel
theorem qd168_57 : sq_in 168 57 (.goto (-19)) 3 := by decide +kernel
theorem qd168_60 : sq_in 168 60 (.iconst 0) 1 := by decide +kernel
theorem qd168_61 : sq_in 168 61 (.istore_n 1) 1 := by decide +kernel
theorem qd168_62 : sq_in 168 62 (.iload_n 1) 1 := by decide +kernel
theorem qd168_63 : sq_in 168 63 (.aload_n 0) 1 := by decide +kernel
theorem qd168_64 : sq_in 168 64 (.getfield 7) 3 := by decide +kernel
theorem qd168_67 : sq_in 168 67 (.iconst 4) 1 := by decide +kernel
theorem qd168_68 : sq_in 168 68 (.iaload) 1 := by decide +kernel
theorem qd168_69 : sq_in 168 69 (.if_icmp .ge 14) 3 := by decide +kernel
theorem qd168_72 : sq_in 168 72 (.aload_n 0) 1 := by decide +kernel
theorem qd168_73 : sq_in 168 73 (.iload_n 1) 1 := by decide +kernel
theorem qd168_74 : sq_in 168 74 (.invokevirtual 213) 3 := by decide +kernel
theorem qd168_77 : sq_in 168 77 (.iinc 1 1) 3 := by decide +kernel
theorem qd168_80 : sq_in 168 80 (.goto (-18)) 3 := by decide +kernel
theorem qd168_83 : sq_in 168 83 (.iconst 0) 1 := by decide +kernel
theorem qd168_84 : sq_in 168 84 (.istore_n 1) 1 := by decide +kernel
theorem qd168_85 : sq_in 168 85 (.iload_n 1) 1 := by decide +kernel
theorem qd168_86 : sq_in 168 86 (.iconst 3) 1 := by decide +kernel
theorem qd168_87 : sq_in 168 87 (.aload_n 0) 1 := by decide +kernel
theorem qd168_88 : sq_in 168 88 (.getfield 7) 3 := by decide +kernel
theorem qd168_91 : sq_in 168 91 (.iconst 5) 1 := by decide +kernel
theorem qd168_92 : sq_in 168 92 (.iaload) 1 := by decide +kernel
theorem qd168_93 : sq_in 168 93 (.imul) 1 := by decide +kernel
theorem qd168_94 : sq_in 168 94 (.if_icmp .ge 24) 3 := by decide +kernel
theorem qd168_97 : sq_in 168 97 (.aload_n 0) 1 := by decide +kernel
theorem qd168_98 : sq_in 168 98 (.aload_n 0) 1 := by decide +kernel
theorem qd168_99 : sq_in 168 99 (.getfield 7) 3 := by decide +kernel
theorem qd168_102 : sq_in 168 102 (.sipush 183) 3 := by decide +kernel
theorem qd168_105 : sq_in 168 105 (.iload_n 1) 1 := by decide +kernel
theorem qd168_106 : sq_in 168 106 (.iadd) 1 := by decide +kernel
theorem qd168_107 : sq_in 168 107 (.iaload) 1 := by decide +kernel
theorem qd168_108 : sq_in 168 108 (.i2l) 1 := by decide +kernel
theorem qd168_109 : sq_in 168 109 (.invokevirtual 207) 3 := by decide +kernel
theorem qd168_112 : sq_in 168 112 (.iinc 1 1) 3 := by decide +kernel
theorem qd168_115 : sq_in 168 115 (.goto (-30)) 3 := by decide +kernel
theorem qd168_118 : sq_in 168 118 (.aload_n 0) 1 := by decide +kernel
theorem qd168_119 : sq_in 168 119 (.aload_n 0) 1 := by decide +kernel
theorem qd168_120 : sq_in 168 120 (.iconst 0) 1 := by decide +kernel
theorem qd168_121 : sq_in 168 121 (.iconst 0) 1 := by decide +kernel
theorem qd168_122 : sq_in 168 122 (.invokevirtual 186) 3 := by decide +kernel
theorem qd168_125 : sq_in 168 125 (.i2l) 1 := by decide +kernel
theorem qd168_126 : sq_in 168 126 (.invokevirtual 207) 3 := by decide +kernel
theorem qd168_129 : sq_in 168 129 (.aload_n 0) 1 := by decide +kernel
theorem qd168_130 : sq_in 168 130 (.aload_n 0) 1 := by decide +kernel
theorem qd168_131 : sq_in 168 131 (.iconst 1) 1 := by decide +kernel
theorem qd168_132 : sq_in 168 132 (.iconst 0) 1 := by decide +kernel
theorem qd168_133 : sq_in 168 133 (.invokevirtual 186) 3 := by decide +kernel
theorem qd168_136 : sq_in 168 136 (.i2l) 1 := by decide +kernel
theorem qd168_137 : sq_in 168 137 (.invokevirtual 207) 3 := by decide +kernel
theorem qd168_140 : sq_in 168 140 (.aload_n 0) 1 := by decide +kernel
theorem qd168_141 : sq_in 168 141 (.aload_n 0) 1 := by decide +kernel
theorem qd168_142 : sq_in 168 142 (.iconst 0) 1 := by decide +kernel
theorem qd168_143 : sq_in 168 143 (.iconst 1) 1 := by decide +kernel
theorem qd168_144 : sq_in 168 144 (.invokevirtual 186) 3 := by decide +kernel
theorem qd168_147 : sq_in 168 147 (.i2l) 1 := by decide +kernel
theorem qd168_148 : sq_in 168 148 (.invokevirtual 207) 3 := by decide +kernel
theorem qd168_151 : sq_in 168 151 (.aload_n 0) 1 := by decide +kernel
theorem qd168_152 : sq_in 168 152 (.aload_n 0) 1 := by decide +kernel
theorem qd168_153 : sq_in 168 153 (.iconst 0) 1 := by decide +kernel
theorem qd168_154 : sq_in 168 154 (.bipush 9) 2 := by decide +kernel
theorem qd168_156 : sq_in 168 156 (.invokevirtual 186) 3 := by decide +kernel
theorem qd168_159 : sq_in 168 159 (.i2l) 1 := by decide +kernel
theorem qd168_160 : sq_in 168 160 (.invokevirtual 207) 3 := by decide +kernel
theorem qd168_163 : sq_in 168 163 (.iconst 0) 1 := by decide +kernel
theorem qd168_164 : sq_in 168 164 (.istore_n 1) 1 := by decide +kernel
theorem qd168_165 : sq_in 168 165 (.iload_n 1) 1 := by decide +kernel
theorem qd168_166 : sq_in 168 166 (.iconst 4) 1 := by decide +kernel
theorem qd168_167 : sq_in 168 167 (.if_icmp .ge 21) 3 := by decide +kernel
theorem qd168_170 : sq_in 168 170 (.aload_n 0) 1 := by decide +kernel
theorem qd168_171 : sq_in 168 171 (.aload_n 0) 1 := by decide +kernel
theorem qd168_172 : sq_in 168 172 (.bipush 10) 2 := by decide +kernel
theorem qd168_174 : sq_in 168 174 (.iload_n 1) 1 := by decide +kernel
theorem qd168_175 : sq_in 168 175 (.invokevirtual 190) 3 := by decide +kernel
theorem qd168_178 : sq_in 168 178 (.i2l) 1 := by decide +kernel
theorem qd168_179 : sq_in 168 179 (.invokevirtual 207) 3 := by decide +kernel
theorem qd168_182 : sq_in 168 182 (.iinc 1 1) 3 := by decide +kernel
theorem qd168_185 : sq_in 168 185 (.goto (-20)) 3 := by decide +kernel
theorem qd168_188 : sq_in 168 188 (.aload_n 0) 1 := by decide +kernel
theorem qd168_189 : sq_in 168 189 (.aload_n 0) 1 := by decide +kernel
theorem qd168_190 : sq_in 168 190 (.invokevirtual 193) 3 := by decide +kernel
theorem qd168_193 : sq_in 168 193 (.invokestatic 216) 3 := by decide +kernel
theorem qd168_196 : sq_in 168 196 (.invokevirtual 207) 3 := by decide +kernel
theorem qd168_199 : sq_in 168 199 (.aload_n 0) 1 := by decide +kernel
theorem qd168_200 : sq_in 168 200 (.aload_n 0) 1 := by decide +kernel
theorem qd168_201 : sq_in 168 201 (.invokevirtual 197) 3 := by decide +kernel
theorem qd168_204 : sq_in 168 204 (.invokestatic 222) 3 := by decide +kernel
theorem qd168_207 : sq_in 168 207 (.i2l) 1 := by decide +kernel
theorem qd168_208 : sq_in 168 208 (.invokevirtual 207) 3 := by decide +kernel
theorem qd168_211 : sq_in 168 211 (.aload_n 0) 1 := by decide +kernel
theorem qd168_212 : sq_in 168 212 (.aload_n 0) 1 := by decide +kernel
theorem qd168_213 : sq_in 168 213 (.getfield 159) 3 := by decide +kernel
theorem qd168_216 : sq_in 168 216 (.ifCond .eq 7) 3 := by decide +kernel
theorem qd168_219 : sq_in 168 219 (.lconst 1) 1 := by decide +kernel
theorem qd168_220 : sq_in 168 220 (.goto 4) 3 := by decide +kernel
theorem qd168_223 : sq_in 168 223 (.lconst 0) 1 := by decide +kernel
theorem qd168_224 : sq_in 168 224 (.invokevirtual 207) 3 := by decide +kernel
theorem qd168_227 : sq_in 168 227 (.aload_n 0) 1 := by decide +kernel
theorem qd168_228 : sq_in 168 228 (.aload_n 0) 1 := by decide +kernel
theorem qd168_229 : sq_in 168 229 (.getfield 128) 3 := by decide +kernel
theorem qd168_232 : sq_in 168 232 (.i2l) 1 := by decide +kernel
theorem qd168_233 : sq_in 168 233 (.invokevirtual 207) 3 := by decide +kernel
theorem qd168_236 : sq_in 168 236 (.iconst 0) 1 := by decide +kernel
theorem qd168_237 : sq_in 168 237 (.istore_n 1) 1 := by decide +kernel
theorem qd168_238 : sq_in 168 238 (.iload_n 1) 1 := by decide +kernel
theorem qd168_239 : sq_in 168 239 (.aload_n 0) 1 := by decide +kernel
theorem qd168_240 : sq_in 168 240 (.getfield 128) 3 := by decide +kernel
theorem qd168_243 : sq_in 168 243 (.if_icmp .ge 20) 3 := by decide +kernel
theorem qd168_246 : sq_in 168 246 (.aload_n 0) 1 := by decide +kernel
theorem qd168_247 : sq_in 168 247 (.aload_n 0) 1 := by decide +kernel
theorem qd168_248 : sq_in 168 248 (.getfield 22) 3 := by decide +kernel
theorem qd168_251 : sq_in 168 251 (.iload_n 1) 1 := by decide +kernel
theorem qd168_252 : sq_in 168 252 (.iaload) 1 := by decide +kernel
theorem qd168_253 : sq_in 168 253 (.i2l) 1 := by decide +kernel
theorem qd168_254 : sq_in 168 254 (.invokevirtual 207) 3 := by decide +kernel
theorem qd168_257 : sq_in 168 257 (.iinc 1 1) 3 := by decide +kernel
theorem qd168_260 : sq_in 168 260 (.goto (-22)) 3 := by decide +kernel
theorem qd168_263 : sq_in 168 263 (.aload_n 0) 1 := by decide +kernel
theorem qd168_264 : sq_in 168 264 (.getfield 203) 3 := by decide +kernel
theorem qd168_267 : sq_in 168 267 (.lreturn) 1 := by decide +kernel
end
section
/-! ===== the instruction at each place ===== -/
-- 169: SewingPilesLaw.hire(LSewingPiles;I[J)I
theorem qd169_0 : sq_in 169 0 (.aload_n 2) 1 := by decide +kernel
theorem qd169_1 : sq_in 169 1 (.iconst 0) 1 := by decide +kernel
theorem qd169_2 : sq_in 169 2 (.aload_n 0) 1 := by decide +kernel
theorem qd169_3 : sq_in 169 3 (.iload_n 1) 1 := by decide +kernel
theorem qd169_4 : sq_in 169 4 (.invokevirtual 7) 3 := by decide +kernel
theorem qd169_7 : sq_in 169 7 (.i2l) 1 := by decide +kernel
theorem qd169_8 : sq_in 169 8 (.lastore) 1 := by decide +kernel
theorem qd169_9 : sq_in 169 9 (.goto 9) 3 := by decide +kernel
theorem qd169_12 : sq_in 169 12 (.astore_n 3) 1 := by decide +kernel
theorem qd169_13 : sq_in 169 13 (.iconst 1) 1 := by decide +kernel
theorem qd169_14 : sq_in 169 14 (.ireturn) 1 := by decide +kernel
theorem qd169_15 : sq_in 169 15 (.astore_n 3) 1 := by decide +kernel
theorem qd169_16 : sq_in 169 16 (.iconst 2) 1 := by decide +kernel
theorem qd169_17 : sq_in 169 17 (.ireturn) 1 := by decide +kernel
theorem qd169_18 : sq_in 169 18 (.iconst 0) 1 := by decide +kernel
theorem qd169_19 : sq_in 169 19 (.ireturn) 1 := by decide +kernel
-- 170: SewingPilesLaw.speed(LSewingPiles;II[J)I
theorem qd170_0 : sq_in 170 0 (.aload_n 3) 1 := by decide +kernel
theorem qd170_1 : sq_in 170 1 (.iconst 0) 1 := by decide +kernel
theorem qd170_2 : sq_in 170 2 (.aload_n 0) 1 := by decide +kernel
theorem qd170_3 : sq_in 170 3 (.iload_n 1) 1 := by decide +kernel
theorem qd170_4 : sq_in 170 4 (.iload_n 2) 1 := by decide +kernel
theorem qd170_5 : sq_in 170 5 (.invokevirtual 17) 3 := by decide +kernel
theorem qd170_8 : sq_in 170 8 (.i2l) 1 := by decide +kernel
theorem qd170_9 : sq_in 170 9 (.lastore) 1 := by decide +kernel
theorem qd170_10 : sq_in 170 10 (.goto 11) 3 := by decide +kernel
theorem qd170_13 : sq_in 170 13 (.astore 4) 2 := by decide +kernel
theorem qd170_15 : sq_in 170 15 (.iconst 1) 1 := by decide +kernel
theorem qd170_16 : sq_in 170 16 (.ireturn) 1 := by decide +kernel
theorem qd170_17 : sq_in 170 17 (.astore 4) 2 := by decide +kernel
theorem qd170_19 : sq_in 170 19 (.iconst 2) 1 := by decide +kernel
theorem qd170_20 : sq_in 170 20 (.ireturn) 1 := by decide +kernel
theorem qd170_21 : sq_in 170 21 (.iconst 0) 1 := by decide +kernel
theorem qd170_22 : sq_in 170 22 (.ireturn) 1 := by decide +kernel
-- 171: SewingPilesLaw.lay(LSewingPiles;II[J)I
theorem qd171_0 : sq_in 171 0 (.aload_n 3) 1 := by decide +kernel
theorem qd171_1 : sq_in 171 1 (.iconst 0) 1 := by decide +kernel
theorem qd171_2 : sq_in 171 2 (.aload_n 0) 1 := by decide +kernel
theorem qd171_3 : sq_in 171 3 (.iload_n 1) 1 := by decide +kernel
theorem qd171_4 : sq_in 171 4 (.iload_n 2) 1 := by decide +kernel
theorem qd171_5 : sq_in 171 5 (.invokevirtual 23) 3 := by decide +kernel
theorem qd171_8 : sq_in 171 8 (.i2l) 1 := by decide +kernel
theorem qd171_9 : sq_in 171 9 (.lastore) 1 := by decide +kernel
theorem qd171_10 : sq_in 171 10 (.goto 15) 3 := by decide +kernel
theorem qd171_13 : sq_in 171 13 (.astore 4) 2 := by decide +kernel
theorem qd171_15 : sq_in 171 15 (.iconst 1) 1 := by decide +kernel
theorem qd171_16 : sq_in 171 16 (.ireturn) 1 := by decide +kernel
theorem qd171_17 : sq_in 171 17 (.astore 4) 2 := by decide +kernel
theorem qd171_19 : sq_in 171 19 (.iconst 2) 1 := by decide +kernel
theorem qd171_20 : sq_in 171 20 (.ireturn) 1 := by decide +kernel
theorem qd171_21 : sq_in 171 21 (.astore 4) 2 := by decide +kernel
theorem qd171_23 : sq_in 171 23 (.iconst 3) 1 := by decide +kernel
theorem qd171_24 : sq_in 171 24 (.ireturn) 1 := by decide +kernel
theorem qd171_25 : sq_in 171 25 (.iconst 0) 1 := by decide +kernel
theorem qd171_26 : sq_in 171 26 (.ireturn) 1 := by decide +kernel
-- 172: SewingPilesLaw.wake(LSewingPiles;I[J)I
theorem qd172_0 : sq_in 172 0 (.aload_n 2) 1 := by decide +kernel
theorem qd172_1 : sq_in 172 1 (.iconst 0) 1 := by decide +kernel
theorem qd172_2 : sq_in 172 2 (.aload_n 0) 1 := by decide +kernel
theorem qd172_3 : sq_in 172 3 (.iload_n 1) 1 := by decide +kernel
theorem qd172_4 : sq_in 172 4 (.invokevirtual 26) 3 := by decide +kernel
theorem qd172_7 : sq_in 172 7 (.i2l) 1 := by decide +kernel
theorem qd172_8 : sq_in 172 8 (.lastore) 1 := by decide +kernel
theorem qd172_9 : sq_in 172 9 (.goto 6) 3 := by decide +kernel
theorem qd172_12 : sq_in 172 12 (.astore_n 3) 1 := by decide +kernel
theorem qd172_13 : sq_in 172 13 (.iconst 1) 1 := by decide +kernel
theorem qd172_14 : sq_in 172 14 (.ireturn) 1 := by decide +kernel
theorem qd172_15 : sq_in 172 15 (.iconst 0) 1 := by decide +kernel
theorem qd172_16 : sq_in 172 16 (.ireturn) 1 := by decide +kernel
-- 173: SewingPilesLaw.pass(LSewingPiles;I[J)I
theorem qd173_0 : sq_in 173 0 (.aload_n 2) 1 := by decide +kernel
theorem qd173_1 : sq_in 173 1 (.iconst 0) 1 := by decide +kernel
theorem qd173_2 : sq_in 173 2 (.aload_n 0) 1 := by decide +kernel
theorem qd173_3 : sq_in 173 3 (.iload_n 1) 1 := by decide +kernel
theorem qd173_4 : sq_in 173 4 (.invokevirtual 29) 3 := by decide +kernel
theorem qd173_7 : sq_in 173 7 (.i2l) 1 := by decide +kernel
theorem qd173_8 : sq_in 173 8 (.lastore) 1 := by decide +kernel
theorem qd173_9 : sq_in 173 9 (.goto 6) 3 := by decide +kernel
theorem qd173_12 : sq_in 173 12 (.astore_n 3) 1 := by decide +kernel
theorem qd173_13 : sq_in 173 13 (.iconst 1) 1 := by decide +kernel
theorem qd173_14 : sq_in 173 14 (.ireturn) 1 := by decide +kernel
theorem qd173_15 : sq_in 173 15 (.iconst 0) 1 := by decide +kernel
theorem qd173_16 : sq_in 173 16 (.ireturn) 1 := by decide +kernel
-- 174: SewingPilesLaw.set(LSewingPiles;II[J)I
theorem qd174_0 : sq_in 174 0 (.aload_n 3) 1 := by decide +kernel
theorem qd174_1 : sq_in 174 1 (.iconst 0) 1 := by decide +kernel
theorem qd174_2 : sq_in 174 2 (.aload_n 0) 1 := by decide +kernel
theorem qd174_3 : sq_in 174 3 (.iload_n 1) 1 := by decide +kernel
theorem qd174_4 : sq_in 174 4 (.iload_n 2) 1 := by decide +kernel
theorem qd174_5 : sq_in 174 5 (.invokevirtual 32) 3 := by decide +kernel
theorem qd174_8 : sq_in 174 8 (.i2l) 1 := by decide +kernel
theorem qd174_9 : sq_in 174 9 (.lastore) 1 := by decide +kernel
theorem qd174_10 : sq_in 174 10 (.goto 11) 3 := by decide +kernel
theorem qd174_13 : sq_in 174 13 (.astore 4) 2 := by decide +kernel
theorem qd174_15 : sq_in 174 15 (.iconst 1) 1 := by decide +kernel
theorem qd174_16 : sq_in 174 16 (.ireturn) 1 := by decide +kernel
theorem qd174_17 : sq_in 174 17 (.astore 4) 2 := by decide +kernel
theorem qd174_19 : sq_in 174 19 (.iconst 2) 1 := by decide +kernel
theorem qd174_20 : sq_in 174 20 (.ireturn) 1 := by decide +kernel
theorem qd174_21 : sq_in 174 21 (.iconst 0) 1 := by decide +kernel
theorem qd174_22 : sq_in 174 22 (.ireturn) 1 := by decide +kernel
-- 175: SewingPilesLaw.append(LSewingPiles;I[J)I
theorem qd175_0 : sq_in 175 0 (.aload_n 2) 1 := by decide +kernel
theorem qd175_1 : sq_in 175 1 (.iconst 0) 1 := by decide +kernel
theorem qd175_2 : sq_in 175 2 (.aload_n 0) 1 := by decide +kernel
theorem qd175_3 : sq_in 175 3 (.iload_n 1) 1 := by decide +kernel
theorem qd175_4 : sq_in 175 4 (.invokevirtual 35) 3 := by decide +kernel
theorem qd175_7 : sq_in 175 7 (.i2l) 1 := by decide +kernel
theorem qd175_8 : sq_in 175 8 (.lastore) 1 := by decide +kernel
theorem qd175_9 : sq_in 175 9 (.goto 9) 3 := by decide +kernel
theorem qd175_12 : sq_in 175 12 (.astore_n 3) 1 := by decide +kernel
theorem qd175_13 : sq_in 175 13 (.iconst 1) 1 := by decide +kernel
theorem qd175_14 : sq_in 175 14 (.ireturn) 1 := by decide +kernel
theorem qd175_15 : sq_in 175 15 (.astore_n 3) 1 := by decide +kernel
theorem qd175_16 : sq_in 175 16 (.iconst 2) 1 := by decide +kernel
theorem qd175_17 : sq_in 175 17 (.ireturn) 1 := by decide +kernel
theorem qd175_18 : sq_in 175 18 (.iconst 0) 1 := by decide +kernel
theorem qd175_19 : sq_in 175 19 (.ireturn) 1 := by decide +kernel
-- 176: SewingPilesLaw.obey(LSewingPiles;[J)I
theorem qd176_0 : sq_in 176 0 (.aload_n 1) 1 := by decide +kernel
theorem qd176_1 : sq_in 176 1 (.iconst 0) 1 := by decide +kernel
theorem qd176_2 : sq_in 176 2 (.aload_n 0) 1 := by decide +kernel
theorem qd176_3 : sq_in 176 3 (.invokevirtual 38) 3 := by decide +kernel
theorem qd176_6 : sq_in 176 6 (.i2l) 1 := by decide +kernel
theorem qd176_7 : sq_in 176 7 (.lastore) 1 := by decide +kernel
theorem qd176_8 : sq_in 176 8 (.goto 6) 3 := by decide +kernel
theorem qd176_11 : sq_in 176 11 (.astore_n 2) 1 := by decide +kernel
theorem qd176_12 : sq_in 176 12 (.iconst 1) 1 := by decide +kernel
theorem qd176_13 : sq_in 176 13 (.ireturn) 1 := by decide +kernel
theorem qd176_14 : sq_in 176 14 (.iconst 0) 1 := by decide +kernel
theorem qd176_15 : sq_in 176 15 (.ireturn) 1 := by decide +kernel
-- 177: SewingPilesLaw.goBack(LSewingPiles;[J)I
theorem qd177_0 : sq_in 177 0 (.aload_n 1) 1 := by decide +kernel
theorem qd177_1 : sq_in 177 1 (.iconst 0) 1 := by decide +kernel
theorem qd177_2 : sq_in 177 2 (.aload_n 0) 1 := by decide +kernel
theorem qd177_3 : sq_in 177 3 (.invokevirtual 42) 3 := by decide +kernel
theorem qd177_6 : sq_in 177 6 (.i2l) 1 := by decide +kernel
theorem qd177_7 : sq_in 177 7 (.lastore) 1 := by decide +kernel
theorem qd177_8 : sq_in 177 8 (.goto 6) 3 := by decide +kernel
theorem qd177_11 : sq_in 177 11 (.astore_n 2) 1 := by decide +kernel
theorem qd177_12 : sq_in 177 12 (.iconst 1) 1 := by decide +kernel
theorem qd177_13 : sq_in 177 13 (.ireturn) 1 := by decide +kernel
theorem qd177_14 : sq_in 177 14 (.iconst 0) 1 := by decide +kernel
theorem qd177_15 : sq_in 177 15 (.ireturn) 1 := by decide +kernel
-- 178: SewingPilesLaw.undo(LSewingPiles;[J)I
theorem qd178_0 : sq_in 178 0 (.aload_n 1) 1 := by decide +kernel
theorem qd178_1 : sq_in 178 1 (.iconst 0) 1 := by decide +kernel
theorem qd178_2 : sq_in 178 2 (.aload_n 0) 1 := by decide +kernel
theorem qd178_3 : sq_in 178 3 (.invokevirtual 45) 3 := by decide +kernel
theorem qd178_6 : sq_in 178 6 (.i2l) 1 := by decide +kernel
theorem qd178_7 : sq_in 178 7 (.lastore) 1 := by decide +kernel
theorem qd178_8 : sq_in 178 8 (.goto 6) 3 := by decide +kernel
theorem qd178_11 : sq_in 178 11 (.astore_n 2) 1 := by decide +kernel
theorem qd178_12 : sq_in 178 12 (.iconst 1) 1 := by decide +kernel
theorem qd178_13 : sq_in 178 13 (.ireturn) 1 := by decide +kernel
theorem qd178_14 : sq_in 178 14 (.iconst 0) 1 := by decide +kernel
theorem qd178_15 : sq_in 178 15 (.ireturn) 1 := by decide +kernel
-- 179: SewingPilesLaw.seamstress(LSewingPiles;II[J)I
theorem qd179_0 : sq_in 179 0 (.aload_n 3) 1 := by decide +kernel
theorem qd179_1 : sq_in 179 1 (.iconst 0) 1 := by decide +kernel
theorem qd179_2 : sq_in 179 2 (.aload_n 0) 1 := by decide +kernel
theorem qd179_3 : sq_in 179 3 (.iload_n 1) 1 := by decide +kernel
theorem qd179_4 : sq_in 179 4 (.iload_n 2) 1 := by decide +kernel
theorem qd179_5 : sq_in 179 5 (.invokevirtual 48) 3 := by decide +kernel
theorem qd179_8 : sq_in 179 8 (.i2l) 1 := by decide +kernel
theorem qd179_9 : sq_in 179 9 (.lastore) 1 := by decide +kernel
theorem qd179_10 : sq_in 179 10 (.goto 11) 3 := by decide +kernel
theorem qd179_13 : sq_in 179 13 (.astore 4) 2 := by decide +kernel
theorem qd179_15 : sq_in 179 15 (.iconst 1) 1 := by decide +kernel
theorem qd179_16 : sq_in 179 16 (.ireturn) 1 := by decide +kernel
theorem qd179_17 : sq_in 179 17 (.astore 4) 2 := by decide +kernel
theorem qd179_19 : sq_in 179 19 (.iconst 2) 1 := by decide +kernel
theorem qd179_20 : sq_in 179 20 (.ireturn) 1 := by decide +kernel
theorem qd179_21 : sq_in 179 21 (.iconst 0) 1 := by decide +kernel
theorem qd179_22 : sq_in 179 22 (.ireturn) 1 := by decide +kernel
-- 180: SewingPilesLaw.pile(LSewingPiles;II[J)I
theorem qd180_0 : sq_in 180 0 (.aload_n 3) 1 := by decide +kernel
theorem qd180_1 : sq_in 180 1 (.iconst 0) 1 := by decide +kernel
theorem qd180_2 : sq_in 180 2 (.aload_n 0) 1 := by decide +kernel
theorem qd180_3 : sq_in 180 3 (.iload_n 1) 1 := by decide +kernel
theorem qd180_4 : sq_in 180 4 (.iload_n 2) 1 := by decide +kernel
theorem qd180_5 : sq_in 180 5 (.invokevirtual 51) 3 := by decide +kernel
theorem qd180_8 : sq_in 180 8 (.i2l) 1 := by decide +kernel
theorem qd180_9 : sq_in 180 9 (.lastore) 1 := by decide +kernel
theorem qd180_10 : sq_in 180 10 (.goto 11) 3 := by decide +kernel
theorem qd180_13 : sq_in 180 13 (.astore 4) 2 := by decide +kernel
theorem qd180_15 : sq_in 180 15 (.iconst 1) 1 := by decide +kernel
theorem qd180_16 : sq_in 180 16 (.ireturn) 1 := by decide +kernel
theorem qd180_17 : sq_in 180 17 (.astore 4) 2 := by decide +kernel
theorem qd180_19 : sq_in 180 19 (.iconst 2) 1 := by decide +kernel
theorem qd180_20 : sq_in 180 20 (.ireturn) 1 := by decide +kernel
theorem qd180_21 : sq_in 180 21 (.iconst 0) 1 := by decide +kernel
theorem qd180_22 : sq_in 180 22 (.ireturn) 1 := by decide +kernel
-- 181: SewingPilesLaw.shirt(LSewingPiles;II[J)I
theorem qd181_0 : sq_in 181 0 (.aload_n 3) 1 := by decide +kernel
theorem qd181_1 : sq_in 181 1 (.iconst 0) 1 := by decide +kernel
theorem qd181_2 : sq_in 181 2 (.aload_n 0) 1 := by decide +kernel
theorem qd181_3 : sq_in 181 3 (.iload_n 1) 1 := by decide +kernel
theorem qd181_4 : sq_in 181 4 (.iload_n 2) 1 := by decide +kernel
theorem qd181_5 : sq_in 181 5 (.invokevirtual 54) 3 := by decide +kernel
theorem qd181_8 : sq_in 181 8 (.i2l) 1 := by decide +kernel
theorem qd181_9 : sq_in 181 9 (.lastore) 1 := by decide +kernel
theorem qd181_10 : sq_in 181 10 (.goto 11) 3 := by decide +kernel
theorem qd181_13 : sq_in 181 13 (.astore 4) 2 := by decide +kernel
theorem qd181_15 : sq_in 181 15 (.iconst 1) 1 := by decide +kernel
theorem qd181_16 : sq_in 181 16 (.ireturn) 1 := by decide +kernel
theorem qd181_17 : sq_in 181 17 (.astore 4) 2 := by decide +kernel
theorem qd181_19 : sq_in 181 19 (.iconst 2) 1 := by decide +kernel
theorem qd181_20 : sq_in 181 20 (.ireturn) 1 := by decide +kernel
theorem qd181_21 : sq_in 181 21 (.iconst 0) 1 := by decide +kernel
theorem qd181_22 : sq_in 181 22 (.ireturn) 1 := by decide +kernel
-- 182: SewingPilesLaw.count(LSewingPiles;I[J)I
theorem qd182_0 : sq_in 182 0 (.aload_n 2) 1 := by decide +kernel
theorem qd182_1 : sq_in 182 1 (.iconst 0) 1 := by decide +kernel
theorem qd182_2 : sq_in 182 2 (.aload_n 0) 1 := by decide +kernel
theorem qd182_3 : sq_in 182 3 (.iload_n 1) 1 := by decide +kernel
theorem qd182_4 : sq_in 182 4 (.invokevirtual 57) 3 := by decide +kernel
theorem qd182_7 : sq_in 182 7 (.i2l) 1 := by decide +kernel
theorem qd182_8 : sq_in 182 8 (.lastore) 1 := by decide +kernel
theorem qd182_9 : sq_in 182 9 (.goto 6) 3 := by decide +kernel
theorem qd182_12 : sq_in 182 12 (.astore_n 3) 1 := by decide +kernel
theorem qd182_13 : sq_in 182 13 (.iconst 1) 1 := by decide +kernel
theorem qd182_14 : sq_in 182 14 (.ireturn) 1 := by decide +kernel
theorem qd182_15 : sq_in 182 15 (.iconst 0) 1 := by decide +kernel
theorem qd182_16 : sq_in 182 16 (.ireturn) 1 := by decide +kernel
-- 183: SewingPilesLaw.setting(LSewingPiles;I[J)I
theorem qd183_0 : sq_in 183 0 (.aload_n 2) 1 := by decide +kernel
theorem qd183_1 : sq_in 183 1 (.iconst 0) 1 := by decide +kernel
theorem qd183_2 : sq_in 183 2 (.aload_n 0) 1 := by decide +kernel
theorem qd183_3 : sq_in 183 3 (.iload_n 1) 1 := by decide +kernel
theorem qd183_4 : sq_in 183 4 (.invokevirtual 60) 3 := by decide +kernel
theorem qd183_7 : sq_in 183 7 (.i2l) 1 := by decide +kernel
theorem qd183_8 : sq_in 183 8 (.lastore) 1 := by decide +kernel
theorem qd183_9 : sq_in 183 9 (.goto 6) 3 := by decide +kernel
theorem qd183_12 : sq_in 183 12 (.astore_n 3) 1 := by decide +kernel
theorem qd183_13 : sq_in 183 13 (.iconst 1) 1 := by decide +kernel
theorem qd183_14 : sq_in 183 14 (.ireturn) 1 := by decide +kernel
theorem qd183_15 : sq_in 183 15 (.iconst 0) 1 := by decide +kernel
theorem qd183_16 : sq_in 183 16 (.ireturn) 1 := by decide +kernel
-- 184: SewingPilesLaw.choice(LSewingPiles;I[J)I
theorem qd184_0 : sq_in 184 0 (.aload_n 2) 1 := by decide +kernel
theorem qd184_1 : sq_in 184 1 (.iconst 0) 1 := by decide +kernel
theorem qd184_2 : sq_in 184 2 (.aload_n 0) 1 := by decide +kernel
theorem qd184_3 : sq_in 184 3 (.iload_n 1) 1 := by decide +kernel
theorem qd184_4 : sq_in 184 4 (.invokevirtual 63) 3 := by decide +kernel
theorem qd184_7 : sq_in 184 7 (.i2l) 1 := by decide +kernel
theorem qd184_8 : sq_in 184 8 (.lastore) 1 := by decide +kernel
theorem qd184_9 : sq_in 184 9 (.goto 6) 3 := by decide +kernel
theorem qd184_12 : sq_in 184 12 (.astore_n 3) 1 := by decide +kernel
theorem qd184_13 : sq_in 184 13 (.iconst 1) 1 := by decide +kernel
theorem qd184_14 : sq_in 184 14 (.ireturn) 1 := by decide +kernel
theorem qd184_15 : sq_in 184 15 (.iconst 0) 1 := by decide +kernel
theorem qd184_16 : sq_in 184 16 (.ireturn) 1 := by decide +kernel
-- 185: SewingPilesLaw.doneWith(LSewingPiles;I[J)I
theorem qd185_0 : sq_in 185 0 (.aload_n 2) 1 := by decide +kernel
theorem qd185_1 : sq_in 185 1 (.iconst 0) 1 := by decide +kernel
theorem qd185_2 : sq_in 185 2 (.aload_n 0) 1 := by decide +kernel
theorem qd185_3 : sq_in 185 3 (.iload_n 1) 1 := by decide +kernel
theorem qd185_4 : sq_in 185 4 (.invokevirtual 66) 3 := by decide +kernel
theorem qd185_7 : sq_in 185 7 (.i2l) 1 := by decide +kernel
theorem qd185_8 : sq_in 185 8 (.lastore) 1 := by decide +kernel
theorem qd185_9 : sq_in 185 9 (.goto 6) 3 := by decide +kernel
theorem qd185_12 : sq_in 185 12 (.astore_n 3) 1 := by decide +kernel
theorem qd185_13 : sq_in 185 13 (.iconst 1) 1 := by decide +kernel
theorem qd185_14 : sq_in 185 14 (.ireturn) 1 := by decide +kernel
theorem qd185_15 : sq_in 185 15 (.iconst 0) 1 := by decide +kernel
theorem qd185_16 : sq_in 185 16 (.ireturn) 1 := by decide +kernel
-- 186: SewingPilesLaw.ifPassed(LSewingPiles;II[J)I
theorem qd186_0 : sq_in 186 0 (.aload_n 3) 1 := by decide +kernel
theorem qd186_1 : sq_in 186 1 (.iconst 0) 1 := by decide +kernel
theorem qd186_2 : sq_in 186 2 (.aload_n 0) 1 := by decide +kernel
theorem qd186_3 : sq_in 186 3 (.iload_n 1) 1 := by decide +kernel
theorem qd186_4 : sq_in 186 4 (.iload_n 2) 1 := by decide +kernel
theorem qd186_5 : sq_in 186 5 (.invokevirtual 69) 3 := by decide +kernel
theorem qd186_8 : sq_in 186 8 (.i2l) 1 := by decide +kernel
theorem qd186_9 : sq_in 186 9 (.lastore) 1 := by decide +kernel
theorem qd186_10 : sq_in 186 10 (.goto 7) 3 := by decide +kernel
theorem qd186_13 : sq_in 186 13 (.astore 4) 2 := by decide +kernel
theorem qd186_15 : sq_in 186 15 (.iconst 1) 1 := by decide +kernel
theorem qd186_16 : sq_in 186 16 (.ireturn) 1 := by decide +kernel
theorem qd186_17 : sq_in 186 17 (.iconst 0) 1 := by decide +kernel
theorem qd186_18 : sq_in 186 18 (.ireturn) 1 := by decide +kernel
-- 187: SewingPilesLaw.law([I)Z
theorem qd187_0 : sq_in 187 0 (.new 8) 3 := by decide +kernel
theorem qd187_3 : sq_in 187 3 (.dup) 1 := by decide +kernel
theorem qd187_4 : sq_in 187 4 (.invokespecial 72) 3 := by decide +kernel
theorem qd187_7 : sq_in 187 7 (.astore_n 1) 1 := by decide +kernel
theorem qd187_8 : sq_in 187 8 (.new 73) 3 := by decide +kernel
theorem qd187_11 : sq_in 187 11 (.dup) 1 := by decide +kernel
theorem qd187_12 : sq_in 187 12 (.invokespecial 75) 3 := by decide +kernel
theorem qd187_15 : sq_in 187 15 (.astore_n 2) 1 := by decide +kernel
theorem qd187_16 : sq_in 187 16 (.iconst 1) 1 := by decide +kernel
theorem qd187_17 : sq_in 187 17 (.newarray .long) 2 := by decide +kernel
theorem qd187_19 : sq_in 187 19 (.astore_n 3) 1 := by decide +kernel
theorem qd187_20 : sq_in 187 20 (.iconst 0) 1 := by decide +kernel
theorem qd187_21 : sq_in 187 21 (.istore 4) 2 := by decide +kernel
theorem qd187_23 : sq_in 187 23 (.iload 4) 2 := by decide +kernel
theorem qd187_25 : sq_in 187 25 (.aload_n 0) 1 := by decide +kernel
theorem qd187_26 : sq_in 187 26 (.arraylength) 1 := by decide +kernel
theorem qd187_27 : sq_in 187 27 (.iconst 3) 1 := by decide +kernel
theorem qd187_28 : sq_in 187 28 (.isub) 1 := by decide +kernel
theorem qd187_29 : sq_in 187 29 (.if_icmp .gt 1352) 3 := by decide +kernel
theorem qd187_32 : sq_in 187 32 (.aload_n 0) 1 := by decide +kernel
theorem qd187_33 : sq_in 187 33 (.iload 4) 2 := by decide +kernel
theorem qd187_35 : sq_in 187 35 (.iaload) 1 := by decide +kernel
theorem qd187_36 : sq_in 187 36 (.bipush 31) 2 := by decide +kernel
theorem qd187_38 : sq_in 187 38 (.iand) 1 := by decide +kernel
theorem qd187_39 : sq_in 187 39 (.tableswitch 1336 0 25 #[117, 173, 241, 309, 365, 421, 489, 545, 558, 571, 615, 628, 672, 716, 784, 852, 920, 976, 1032, 1088, 1101, 1114, 1170, 1238, 1279, 1322]) 117 := by decide +kernel
theorem qd187_156 : sq_in 187 156 (.aload_n 1) 1 := by decide +kernel
theorem qd187_157 : sq_in 187 157 (.aload_n 0) 1 := by decide +kernel
theorem qd187_158 : sq_in 187 158 (.iload 4) 2 := by decide +kernel
theorem qd187_160 : sq_in 187 160 (.iconst 1) 1 := by decide +kernel
theorem qd187_161 : sq_in 187 161 (.iadd) 1 := by decide +kernel
theorem qd187_162 : sq_in 187 162 (.iaload) 1 := by decide +kernel
theorem qd187_163 : sq_in 187 163 (.aload_n 3) 1 := by decide +kernel
theorem qd187_164 : sq_in 187 164 (.invokestatic 76) 3 := by decide +kernel
theorem qd187_167 : sq_in 187 167 (.istore 5) 2 := by decide +kernel
theorem qd187_169 : sq_in 187 169 (.aload_n 2) 1 := by decide +kernel
theorem qd187_170 : sq_in 187 170 (.aload_n 0) 1 := by decide +kernel
theorem qd187_171 : sq_in 187 171 (.iload 4) 2 := by decide +kernel
theorem qd187_173 : sq_in 187 173 (.iconst 1) 1 := by decide +kernel
theorem qd187_174 : sq_in 187 174 (.iadd) 1 := by decide +kernel
theorem qd187_175 : sq_in 187 175 (.iaload) 1 := by decide +kernel
theorem qd187_176 : sq_in 187 176 (.invokevirtual 81) 3 := by decide +kernel
theorem qd187_179 : sq_in 187 179 (.istore 6) 2 := by decide +kernel
theorem qd187_181 : sq_in 187 181 (.aload_n 2) 1 := by decide +kernel
theorem qd187_182 : sq_in 187 182 (.invokevirtual 82) 3 := by decide +kernel
theorem qd187_185 : sq_in 187 185 (.iload 5) 2 := by decide +kernel
theorem qd187_187 : sq_in 187 187 (.if_icmp .eq 5) 3 := by decide +kernel
theorem qd187_190 : sq_in 187 190 (.iconst 0) 1 := by decide +kernel
theorem qd187_191 : sq_in 187 191 (.ireturn) 1 := by decide +kernel
theorem qd187_192 : sq_in 187 192 (.iload 5) 2 := by decide +kernel
theorem qd187_194 : sq_in 187 194 (.ifCond .ne 15) 3 := by decide +kernel
theorem qd187_197 : sq_in 187 197 (.aload_n 3) 1 := by decide +kernel
theorem qd187_198 : sq_in 187 198 (.iconst 0) 1 := by decide +kernel
theorem qd187_199 : sq_in 187 199 (.laload) 1 := by decide +kernel
theorem qd187_200 : sq_in 187 200 (.iload 6) 2 := by decide +kernel
theorem qd187_202 : sq_in 187 202 (.i2l) 1 := by decide +kernel
theorem qd187_203 : sq_in 187 203 (.lcmp) 1 := by decide +kernel
theorem qd187_204 : sq_in 187 204 (.ifCond .eq 5) 3 := by decide +kernel
theorem qd187_207 : sq_in 187 207 (.iconst 0) 1 := by decide +kernel
theorem qd187_208 : sq_in 187 208 (.ireturn) 1 := by decide +kernel
theorem qd187_209 : sq_in 187 209 (.goto 1166) 3 := by decide +kernel
theorem qd187_212 : sq_in 187 212 (.aload_n 1) 1 := by decide +kernel
theorem qd187_213 : sq_in 187 213 (.aload_n 0) 1 := by decide +kernel
theorem qd187_214 : sq_in 187 214 (.iload 4) 2 := by decide +kernel
theorem qd187_216 : sq_in 187 216 (.iconst 1) 1 := by decide +kernel
theorem qd187_217 : sq_in 187 217 (.iadd) 1 := by decide +kernel
theorem qd187_218 : sq_in 187 218 (.iaload) 1 := by decide +kernel
theorem qd187_219 : sq_in 187 219 (.aload_n 0) 1 := by decide +kernel
theorem qd187_220 : sq_in 187 220 (.iload 4) 2 := by decide +kernel
theorem qd187_222 : sq_in 187 222 (.iconst 2) 1 := by decide +kernel
theorem qd187_223 : sq_in 187 223 (.iadd) 1 := by decide +kernel
theorem qd187_224 : sq_in 187 224 (.iaload) 1 := by decide +kernel
theorem qd187_225 : sq_in 187 225 (.aload_n 3) 1 := by decide +kernel
theorem qd187_226 : sq_in 187 226 (.invokestatic 85) 3 := by decide +kernel
theorem qd187_229 : sq_in 187 229 (.istore 5) 2 := by decide +kernel
theorem qd187_231 : sq_in 187 231 (.aload_n 2) 1 := by decide +kernel
theorem qd187_232 : sq_in 187 232 (.aload_n 0) 1 := by decide +kernel
theorem qd187_233 : sq_in 187 233 (.iload 4) 2 := by decide +kernel
theorem qd187_235 : sq_in 187 235 (.iconst 1) 1 := by decide +kernel
theorem qd187_236 : sq_in 187 236 (.iadd) 1 := by decide +kernel
theorem qd187_237 : sq_in 187 237 (.iaload) 1 := by decide +kernel
theorem qd187_238 : sq_in 187 238 (.aload_n 0) 1 := by decide +kernel
theorem qd187_239 : sq_in 187 239 (.iload 4) 2 := by decide +kernel
theorem qd187_241 : sq_in 187 241 (.iconst 2) 1 := by decide +kernel
theorem qd187_242 : sq_in 187 242 (.iadd) 1 := by decide +kernel
theorem qd187_243 : sq_in 187 243 (.iaload) 1 := by decide +kernel
theorem qd187_244 : sq_in 187 244 (.invokevirtual 88) 3 := by decide +kernel
theorem qd187_247 : sq_in 187 247 (.istore 6) 2 := by decide +kernel
theorem qd187_249 : sq_in 187 249 (.aload_n 2) 1 := by decide +kernel
theorem qd187_250 : sq_in 187 250 (.invokevirtual 82) 3 := by decide +kernel
theorem qd187_253 : sq_in 187 253 (.iload 5) 2 := by decide +kernel
theorem qd187_255 : sq_in 187 255 (.if_icmp .eq 5) 3 := by decide +kernel
theorem qd187_258 : sq_in 187 258 (.iconst 0) 1 := by decide +kernel
theorem qd187_259 : sq_in 187 259 (.ireturn) 1 := by decide +kernel
theorem qd187_260 : sq_in 187 260 (.iload 5) 2 := by decide +kernel
theorem qd187_262 : sq_in 187 262 (.ifCond .ne 15) 3 := by decide +kernel
theorem qd187_265 : sq_in 187 265 (.aload_n 3) 1 := by decide +kernel
theorem qd187_266 : sq_in 187 266 (.iconst 0) 1 := by decide +kernel
theorem qd187_267 : sq_in 187 267 (.laload) 1 := by decide +kernel
theorem qd187_268 : sq_in 187 268 (.iload 6) 2 := by decide +kernel
theorem qd187_270 : sq_in 187 270 (.i2l) 1 := by decide +kernel
theorem qd187_271 : sq_in 187 271 (.lcmp) 1 := by decide +kernel
theorem qd187_272 : sq_in 187 272 (.ifCond .eq 5) 3 := by decide +kernel
theorem qd187_275 : sq_in 187 275 (.iconst 0) 1 := by decide +kernel
theorem qd187_276 : sq_in 187 276 (.ireturn) 1 := by decide +kernel
theorem qd187_277 : sq_in 187 277 (.goto 1098) 3 := by decide +kernel
theorem qd187_280 : sq_in 187 280 (.aload_n 1) 1 := by decide +kernel
theorem qd187_281 : sq_in 187 281 (.aload_n 0) 1 := by decide +kernel
theorem qd187_282 : sq_in 187 282 (.iload 4) 2 := by decide +kernel
theorem qd187_284 : sq_in 187 284 (.iconst 1) 1 := by decide +kernel
theorem qd187_285 : sq_in 187 285 (.iadd) 1 := by decide +kernel
theorem qd187_286 : sq_in 187 286 (.iaload) 1 := by decide +kernel
theorem qd187_287 : sq_in 187 287 (.aload_n 0) 1 := by decide +kernel
theorem qd187_288 : sq_in 187 288 (.iload 4) 2 := by decide +kernel
theorem qd187_290 : sq_in 187 290 (.iconst 2) 1 := by decide +kernel
theorem qd187_291 : sq_in 187 291 (.iadd) 1 := by decide +kernel
theorem qd187_292 : sq_in 187 292 (.iaload) 1 := by decide +kernel
theorem qd187_293 : sq_in 187 293 (.aload_n 3) 1 := by decide +kernel
theorem qd187_294 : sq_in 187 294 (.invokestatic 89) 3 := by decide +kernel
theorem qd187_297 : sq_in 187 297 (.istore 5) 2 := by decide +kernel
theorem qd187_299 : sq_in 187 299 (.aload_n 2) 1 := by decide +kernel
theorem qd187_300 : sq_in 187 300 (.aload_n 0) 1 := by decide +kernel
theorem qd187_301 : sq_in 187 301 (.iload 4) 2 := by decide +kernel
theorem qd187_303 : sq_in 187 303 (.iconst 1) 1 := by decide +kernel
theorem qd187_304 : sq_in 187 304 (.iadd) 1 := by decide +kernel
theorem qd187_305 : sq_in 187 305 (.iaload) 1 := by decide +kernel
theorem qd187_306 : sq_in 187 306 (.aload_n 0) 1 := by decide +kernel
theorem qd187_307 : sq_in 187 307 (.iload 4) 2 := by decide +kernel
theorem qd187_309 : sq_in 187 309 (.iconst 2) 1 := by decide +kernel
theorem qd187_310 : sq_in 187 310 (.iadd) 1 := by decide +kernel
theorem qd187_311 : sq_in 187 311 (.iaload) 1 := by decide +kernel
theorem qd187_312 : sq_in 187 312 (.invokevirtual 91) 3 := by decide +kernel
theorem qd187_315 : sq_in 187 315 (.istore 6) 2 := by decide +kernel
theorem qd187_317 : sq_in 187 317 (.aload_n 2) 1 := by decide +kernel
theorem qd187_318 : sq_in 187 318 (.invokevirtual 82) 3 := by decide +kernel
theorem qd187_321 : sq_in 187 321 (.iload 5) 2 := by decide +kernel
theorem qd187_323 : sq_in 187 323 (.if_icmp .eq 5) 3 := by decide +kernel
theorem qd187_326 : sq_in 187 326 (.iconst 0) 1 := by decide +kernel
theorem qd187_327 : sq_in 187 327 (.ireturn) 1 := by decide +kernel
theorem qd187_328 : sq_in 187 328 (.iload 5) 2 := by decide +kernel
theorem qd187_330 : sq_in 187 330 (.ifCond .ne 15) 3 := by decide +kernel
theorem qd187_333 : sq_in 187 333 (.aload_n 3) 1 := by decide +kernel
theorem qd187_334 : sq_in 187 334 (.iconst 0) 1 := by decide +kernel
theorem qd187_335 : sq_in 187 335 (.laload) 1 := by decide +kernel
theorem qd187_336 : sq_in 187 336 (.iload 6) 2 := by decide +kernel
theorem qd187_338 : sq_in 187 338 (.i2l) 1 := by decide +kernel
theorem qd187_339 : sq_in 187 339 (.lcmp) 1 := by decide +kernel
theorem qd187_340 : sq_in 187 340 (.ifCond .eq 5) 3 := by decide +kernel
theorem qd187_343 : sq_in 187 343 (.iconst 0) 1 := by decide +kernel
theorem qd187_344 : sq_in 187 344 (.ireturn) 1 := by decide +kernel
theorem qd187_345 : sq_in 187 345 (.goto 1030) 3 := by decide +kernel
theorem qd187_348 : sq_in 187 348 (.aload_n 1) 1 := by decide +kernel
theorem qd187_349 : sq_in 187 349 (.aload_n 0) 1 := by decide +kernel
theorem qd187_350 : sq_in 187 350 (.iload 4) 2 := by decide +kernel
theorem qd187_352 : sq_in 187 352 (.iconst 1) 1 := by decide +kernel
theorem qd187_353 : sq_in 187 353 (.iadd) 1 := by decide +kernel
theorem qd187_354 : sq_in 187 354 (.iaload) 1 := by decide +kernel
theorem qd187_355 : sq_in 187 355 (.aload_n 3) 1 := by decide +kernel
theorem qd187_356 : sq_in 187 356 (.invokestatic 92) 3 := by decide +kernel
theorem qd187_359 : sq_in 187 359 (.istore 5) 2 := by decide +kernel
theorem qd187_361 : sq_in 187 361 (.aload_n 2) 1 := by decide +kernel
theorem qd187_362 : sq_in 187 362 (.aload_n 0) 1 := by decide +kernel
theorem qd187_363 : sq_in 187 363 (.iload 4) 2 := by decide +kernel
theorem qd187_365 : sq_in 187 365 (.iconst 1) 1 := by decide +kernel
theorem qd187_366 : sq_in 187 366 (.iadd) 1 := by decide +kernel
theorem qd187_367 : sq_in 187 367 (.iaload) 1 := by decide +kernel
theorem qd187_368 : sq_in 187 368 (.invokevirtual 94) 3 := by decide +kernel
theorem qd187_371 : sq_in 187 371 (.istore 6) 2 := by decide +kernel
theorem qd187_373 : sq_in 187 373 (.aload_n 2) 1 := by decide +kernel
theorem qd187_374 : sq_in 187 374 (.invokevirtual 82) 3 := by decide +kernel
theorem qd187_377 : sq_in 187 377 (.iload 5) 2 := by decide +kernel
theorem qd187_379 : sq_in 187 379 (.if_icmp .eq 5) 3 := by decide +kernel
theorem qd187_382 : sq_in 187 382 (.iconst 0) 1 := by decide +kernel
theorem qd187_383 : sq_in 187 383 (.ireturn) 1 := by decide +kernel
theorem qd187_384 : sq_in 187 384 (.iload 5) 2 := by decide +kernel
theorem qd187_386 : sq_in 187 386 (.ifCond .ne 15) 3 := by decide +kernel
theorem qd187_389 : sq_in 187 389 (.aload_n 3) 1 := by decide +kernel
theorem qd187_390 : sq_in 187 390 (.iconst 0) 1 := by decide +kernel
theorem qd187_391 : sq_in 187 391 (.laload) 1 := by decide +kernel
theorem qd187_392 : sq_in 187 392 (.iload 6) 2 := by decide +kernel
theorem qd187_394 : sq_in 187 394 (.i2l) 1 := by decide +kernel
theorem qd187_395 : sq_in 187 395 (.lcmp) 1 := by decide +kernel
theorem qd187_396 : sq_in 187 396 (.ifCond .eq 5) 3 := by decide +kernel
theorem qd187_399 : sq_in 187 399 (.iconst 0) 1 := by decide +kernel
theorem qd187_400 : sq_in 187 400 (.ireturn) 1 := by decide +kernel
theorem qd187_401 : sq_in 187 401 (.goto 974) 3 := by decide +kernel
theorem qd187_404 : sq_in 187 404 (.aload_n 1) 1 := by decide +kernel
theorem qd187_405 : sq_in 187 405 (.aload_n 0) 1 := by decide +kernel
theorem qd187_406 : sq_in 187 406 (.iload 4) 2 := by decide +kernel
theorem qd187_408 : sq_in 187 408 (.iconst 1) 1 := by decide +kernel
theorem qd187_409 : sq_in 187 409 (.iadd) 1 := by decide +kernel
theorem qd187_410 : sq_in 187 410 (.iaload) 1 := by decide +kernel
theorem qd187_411 : sq_in 187 411 (.aload_n 3) 1 := by decide +kernel
theorem qd187_412 : sq_in 187 412 (.invokestatic 95) 3 := by decide +kernel
theorem qd187_415 : sq_in 187 415 (.istore 5) 2 := by decide +kernel
theorem qd187_417 : sq_in 187 417 (.aload_n 2) 1 := by decide +kernel
theorem qd187_418 : sq_in 187 418 (.aload_n 0) 1 := by decide +kernel
theorem qd187_419 : sq_in 187 419 (.iload 4) 2 := by decide +kernel
theorem qd187_421 : sq_in 187 421 (.iconst 1) 1 := by decide +kernel
theorem qd187_422 : sq_in 187 422 (.iadd) 1 := by decide +kernel
theorem qd187_423 : sq_in 187 423 (.iaload) 1 := by decide +kernel
theorem qd187_424 : sq_in 187 424 (.invokevirtual 97) 3 := by decide +kernel
theorem qd187_427 : sq_in 187 427 (.istore 6) 2 := by decide +kernel
theorem qd187_429 : sq_in 187 429 (.aload_n 2) 1 := by decide +kernel
theorem qd187_430 : sq_in 187 430 (.invokevirtual 82) 3 := by decide +kernel
theorem qd187_433 : sq_in 187 433 (.iload 5) 2 := by decide +kernel
theorem qd187_435 : sq_in 187 435 (.if_icmp .eq 5) 3 := by decide +kernel
theorem qd187_438 : sq_in 187 438 (.iconst 0) 1 := by decide +kernel
theorem qd187_439 : sq_in 187 439 (.ireturn) 1 := by decide +kernel
theorem qd187_440 : sq_in 187 440 (.iload 5) 2 := by decide +kernel
theorem qd187_442 : sq_in 187 442 (.ifCond .ne 15) 3 := by decide +kernel
theorem qd187_445 : sq_in 187 445 (.aload_n 3) 1 := by decide +kernel
theorem qd187_446 : sq_in 187 446 (.iconst 0) 1 := by decide +kernel
theorem qd187_447 : sq_in 187 447 (.laload) 1 := by decide +kernel
theorem qd187_448 : sq_in 187 448 (.iload 6) 2 := by decide +kernel
theorem qd187_450 : sq_in 187 450 (.i2l) 1 := by decide +kernel
theorem qd187_451 : sq_in 187 451 (.lcmp) 1 := by decide +kernel
theorem qd187_452 : sq_in 187 452 (.ifCond .eq 5) 3 := by decide +kernel
theorem qd187_455 : sq_in 187 455 (.iconst 0) 1 := by decide +kernel
theorem qd187_456 : sq_in 187 456 (.ireturn) 1 := by decide +kernel
theorem qd187_457 : sq_in 187 457 (.goto 918) 3 := by decide +kernel
theorem qd187_460 : sq_in 187 460 (.aload_n 1) 1 := by decide +kernel
theorem qd187_461 : sq_in 187 461 (.aload_n 0) 1 := by decide +kernel
theorem qd187_462 : sq_in 187 462 (.iload 4) 2 := by decide +kernel
theorem qd187_464 : sq_in 187 464 (.iconst 1) 1 := by decide +kernel
theorem qd187_465 : sq_in 187 465 (.iadd) 1 := by decide +kernel
theorem qd187_466 : sq_in 187 466 (.iaload) 1 := by decide +kernel
theorem qd187_467 : sq_in 187 467 (.aload_n 0) 1 := by decide +kernel
theorem qd187_468 : sq_in 187 468 (.iload 4) 2 := by decide +kernel
theorem qd187_470 : sq_in 187 470 (.iconst 2) 1 := by decide +kernel
theorem qd187_471 : sq_in 187 471 (.iadd) 1 := by decide +kernel
theorem qd187_472 : sq_in 187 472 (.iaload) 1 := by decide +kernel
theorem qd187_473 : sq_in 187 473 (.aload_n 3) 1 := by decide +kernel
theorem qd187_474 : sq_in 187 474 (.invokestatic 98) 3 := by decide +kernel
theorem qd187_477 : sq_in 187 477 (.istore 5) 2 := by decide +kernel
theorem qd187_479 : sq_in 187 479 (.aload_n 2) 1 := by decide +kernel
theorem qd187_480 : sq_in 187 480 (.aload_n 0) 1 := by decide +kernel
theorem qd187_481 : sq_in 187 481 (.iload 4) 2 := by decide +kernel
theorem qd187_483 : sq_in 187 483 (.iconst 1) 1 := by decide +kernel
theorem qd187_484 : sq_in 187 484 (.iadd) 1 := by decide +kernel
theorem qd187_485 : sq_in 187 485 (.iaload) 1 := by decide +kernel
theorem qd187_486 : sq_in 187 486 (.aload_n 0) 1 := by decide +kernel
theorem qd187_487 : sq_in 187 487 (.iload 4) 2 := by decide +kernel
theorem qd187_489 : sq_in 187 489 (.iconst 2) 1 := by decide +kernel
theorem qd187_490 : sq_in 187 490 (.iadd) 1 := by decide +kernel
theorem qd187_491 : sq_in 187 491 (.iaload) 1 := by decide +kernel
theorem qd187_492 : sq_in 187 492 (.invokevirtual 100) 3 := by decide +kernel
theorem qd187_495 : sq_in 187 495 (.istore 6) 2 := by decide +kernel
theorem qd187_497 : sq_in 187 497 (.aload_n 2) 1 := by decide +kernel
theorem qd187_498 : sq_in 187 498 (.invokevirtual 82) 3 := by decide +kernel
theorem qd187_501 : sq_in 187 501 (.iload 5) 2 := by decide +kernel
theorem qd187_503 : sq_in 187 503 (.if_icmp .eq 5) 3 := by decide +kernel
theorem qd187_506 : sq_in 187 506 (.iconst 0) 1 := by decide +kernel
theorem qd187_507 : sq_in 187 507 (.ireturn) 1 := by decide +kernel
theorem qd187_508 : sq_in 187 508 (.iload 5) 2 := by decide +kernel
theorem qd187_510 : sq_in 187 510 (.ifCond .ne 15) 3 := by decide +kernel
theorem qd187_513 : sq_in 187 513 (.aload_n 3) 1 := by decide +kernel
theorem qd187_514 : sq_in 187 514 (.iconst 0) 1 := by decide +kernel
theorem qd187_515 : sq_in 187 515 (.laload) 1 := by decide +kernel
theorem qd187_516 : sq_in 187 516 (.iload 6) 2 := by decide +kernel
theorem qd187_518 : sq_in 187 518 (.i2l) 1 := by decide +kernel
theorem qd187_519 : sq_in 187 519 (.lcmp) 1 := by decide +kernel
theorem qd187_520 : sq_in 187 520 (.ifCond .eq 5) 3 := by decide +kernel
theorem qd187_523 : sq_in 187 523 (.iconst 0) 1 := by decide +kernel
theorem qd187_524 : sq_in 187 524 (.ireturn) 1 := by decide +kernel
theorem qd187_525 : sq_in 187 525 (.goto 850) 3 := by decide +kernel
theorem qd187_528 : sq_in 187 528 (.aload_n 1) 1 := by decide +kernel
theorem qd187_529 : sq_in 187 529 (.aload_n 0) 1 := by decide +kernel
theorem qd187_530 : sq_in 187 530 (.iload 4) 2 := by decide +kernel
theorem qd187_532 : sq_in 187 532 (.iconst 1) 1 := by decide +kernel
theorem qd187_533 : sq_in 187 533 (.iadd) 1 := by decide +kernel
theorem qd187_534 : sq_in 187 534 (.iaload) 1 := by decide +kernel
theorem qd187_535 : sq_in 187 535 (.aload_n 3) 1 := by decide +kernel
theorem qd187_536 : sq_in 187 536 (.invokestatic 101) 3 := by decide +kernel
theorem qd187_539 : sq_in 187 539 (.istore 5) 2 := by decide +kernel
theorem qd187_541 : sq_in 187 541 (.aload_n 2) 1 := by decide +kernel
theorem qd187_542 : sq_in 187 542 (.aload_n 0) 1 := by decide +kernel
theorem qd187_543 : sq_in 187 543 (.iload 4) 2 := by decide +kernel
theorem qd187_545 : sq_in 187 545 (.iconst 1) 1 := by decide +kernel
theorem qd187_546 : sq_in 187 546 (.iadd) 1 := by decide +kernel
theorem qd187_547 : sq_in 187 547 (.iaload) 1 := by decide +kernel
theorem qd187_548 : sq_in 187 548 (.invokevirtual 103) 3 := by decide +kernel
theorem qd187_551 : sq_in 187 551 (.istore 6) 2 := by decide +kernel
theorem qd187_553 : sq_in 187 553 (.aload_n 2) 1 := by decide +kernel
theorem qd187_554 : sq_in 187 554 (.invokevirtual 82) 3 := by decide +kernel
theorem qd187_557 : sq_in 187 557 (.iload 5) 2 := by decide +kernel
theorem qd187_559 : sq_in 187 559 (.if_icmp .eq 5) 3 := by decide +kernel
theorem qd187_562 : sq_in 187 562 (.iconst 0) 1 := by decide +kernel
theorem qd187_563 : sq_in 187 563 (.ireturn) 1 := by decide +kernel
theorem qd187_564 : sq_in 187 564 (.iload 5) 2 := by decide +kernel
theorem qd187_566 : sq_in 187 566 (.ifCond .ne 15) 3 := by decide +kernel
theorem qd187_569 : sq_in 187 569 (.aload_n 3) 1 := by decide +kernel
theorem qd187_570 : sq_in 187 570 (.iconst 0) 1 := by decide +kernel
theorem qd187_571 : sq_in 187 571 (.laload) 1 := by decide +kernel
theorem qd187_572 : sq_in 187 572 (.iload 6) 2 := by decide +kernel
theorem qd187_574 : sq_in 187 574 (.i2l) 1 := by decide +kernel
theorem qd187_575 : sq_in 187 575 (.lcmp) 1 := by decide +kernel
theorem qd187_576 : sq_in 187 576 (.ifCond .eq 5) 3 := by decide +kernel
theorem qd187_579 : sq_in 187 579 (.iconst 0) 1 := by decide +kernel
theorem qd187_580 : sq_in 187 580 (.ireturn) 1 := by decide +kernel
theorem qd187_581 : sq_in 187 581 (.goto 794) 3 := by decide +kernel
theorem qd187_584 : sq_in 187 584 (.aload_n 1) 1 := by decide +kernel
theorem qd187_585 : sq_in 187 585 (.invokevirtual 104) 3 := by decide +kernel
theorem qd187_588 : sq_in 187 588 (.aload_n 2) 1 := by decide +kernel
theorem qd187_589 : sq_in 187 589 (.invokevirtual 107) 3 := by decide +kernel
theorem qd187_592 : sq_in 187 592 (.if_icmp .eq 783) 3 := by decide +kernel
theorem qd187_595 : sq_in 187 595 (.iconst 0) 1 := by decide +kernel
theorem qd187_596 : sq_in 187 596 (.ireturn) 1 := by decide +kernel
theorem qd187_597 : sq_in 187 597 (.aload_n 1) 1 := by decide +kernel
theorem qd187_598 : sq_in 187 598 (.invokevirtual 108) 3 := by decide +kernel
theorem qd187_601 : sq_in 187 601 (.aload_n 2) 1 := by decide +kernel
theorem qd187_602 : sq_in 187 602 (.invokevirtual 111) 3 := by decide +kernel
theorem qd187_605 : sq_in 187 605 (.if_icmp .eq 770) 3 := by decide +kernel
theorem qd187_608 : sq_in 187 608 (.iconst 0) 1 := by decide +kernel
theorem qd187_609 : sq_in 187 609 (.ireturn) 1 := by decide +kernel
theorem qd187_610 : sq_in 187 610 (.aload_n 1) 1 := by decide +kernel
theorem qd187_611 : sq_in 187 611 (.aload_n 3) 1 := by decide +kernel
theorem qd187_612 : sq_in 187 612 (.invokestatic 112) 3 := by decide +kernel
theorem qd187_615 : sq_in 187 615 (.istore 5) 2 := by decide +kernel
theorem qd187_617 : sq_in 187 617 (.aload_n 2) 1 := by decide +kernel
theorem qd187_618 : sq_in 187 618 (.invokevirtual 115) 3 := by decide +kernel
theorem qd187_621 : sq_in 187 621 (.istore 6) 2 := by decide +kernel
theorem qd187_623 : sq_in 187 623 (.aload_n 2) 1 := by decide +kernel
theorem qd187_624 : sq_in 187 624 (.invokevirtual 82) 3 := by decide +kernel
theorem qd187_627 : sq_in 187 627 (.iload 5) 2 := by decide +kernel
theorem qd187_629 : sq_in 187 629 (.if_icmp .eq 5) 3 := by decide +kernel
theorem qd187_632 : sq_in 187 632 (.iconst 0) 1 := by decide +kernel
theorem qd187_633 : sq_in 187 633 (.ireturn) 1 := by decide +kernel
theorem qd187_634 : sq_in 187 634 (.iload 5) 2 := by decide +kernel
theorem qd187_636 : sq_in 187 636 (.ifCond .ne 15) 3 := by decide +kernel
theorem qd187_639 : sq_in 187 639 (.aload_n 3) 1 := by decide +kernel
theorem qd187_640 : sq_in 187 640 (.iconst 0) 1 := by decide +kernel
theorem qd187_641 : sq_in 187 641 (.laload) 1 := by decide +kernel
theorem qd187_642 : sq_in 187 642 (.iload 6) 2 := by decide +kernel
theorem qd187_644 : sq_in 187 644 (.i2l) 1 := by decide +kernel
theorem qd187_645 : sq_in 187 645 (.lcmp) 1 := by decide +kernel
theorem qd187_646 : sq_in 187 646 (.ifCond .eq 5) 3 := by decide +kernel
theorem qd187_649 : sq_in 187 649 (.iconst 0) 1 := by decide +kernel
theorem qd187_650 : sq_in 187 650 (.ireturn) 1 := by decide +kernel
theorem qd187_651 : sq_in 187 651 (.goto 724) 3 := by decide +kernel
theorem qd187_654 : sq_in 187 654 (.aload_n 1) 1 := by decide +kernel
theorem qd187_655 : sq_in 187 655 (.invokevirtual 116) 3 := by decide +kernel
theorem qd187_658 : sq_in 187 658 (.aload_n 2) 1 := by decide +kernel
theorem qd187_659 : sq_in 187 659 (.invokevirtual 119) 3 := by decide +kernel
theorem qd187_662 : sq_in 187 662 (.if_icmp .eq 713) 3 := by decide +kernel
theorem qd187_665 : sq_in 187 665 (.iconst 0) 1 := by decide +kernel
theorem qd187_666 : sq_in 187 666 (.ireturn) 1 := by decide +kernel
theorem qd187_667 : sq_in 187 667 (.aload_n 1) 1 := by decide +kernel
theorem qd187_668 : sq_in 187 668 (.aload_n 3) 1 := by decide +kernel
theorem qd187_669 : sq_in 187 669 (.invokestatic 120) 3 := by decide +kernel
theorem qd187_672 : sq_in 187 672 (.istore 5) 2 := by decide +kernel
theorem qd187_674 : sq_in 187 674 (.aload_n 2) 1 := by decide +kernel
theorem qd187_675 : sq_in 187 675 (.invokevirtual 122) 3 := by decide +kernel
theorem qd187_678 : sq_in 187 678 (.istore 6) 2 := by decide +kernel
theorem qd187_680 : sq_in 187 680 (.aload_n 2) 1 := by decide +kernel
theorem qd187_681 : sq_in 187 681 (.invokevirtual 82) 3 := by decide +kernel
theorem qd187_684 : sq_in 187 684 (.iload 5) 2 := by decide +kernel
theorem qd187_686 : sq_in 187 686 (.if_icmp .eq 5) 3 := by decide +kernel
theorem qd187_689 : sq_in 187 689 (.iconst 0) 1 := by decide +kernel
theorem qd187_690 : sq_in 187 690 (.ireturn) 1 := by decide +kernel
theorem qd187_691 : sq_in 187 691 (.iload 5) 2 := by decide +kernel
theorem qd187_693 : sq_in 187 693 (.ifCond .ne 15) 3 := by decide +kernel
theorem qd187_696 : sq_in 187 696 (.aload_n 3) 1 := by decide +kernel
theorem qd187_697 : sq_in 187 697 (.iconst 0) 1 := by decide +kernel
theorem qd187_698 : sq_in 187 698 (.laload) 1 := by decide +kernel
theorem qd187_699 : sq_in 187 699 (.iload 6) 2 := by decide +kernel
theorem qd187_701 : sq_in 187 701 (.i2l) 1 := by decide +kernel
theorem qd187_702 : sq_in 187 702 (.lcmp) 1 := by decide +kernel
theorem qd187_703 : sq_in 187 703 (.ifCond .eq 5) 3 := by decide +kernel
theorem qd187_706 : sq_in 187 706 (.iconst 0) 1 := by decide +kernel
theorem qd187_707 : sq_in 187 707 (.ireturn) 1 := by decide +kernel
theorem qd187_708 : sq_in 187 708 (.goto 667) 3 := by decide +kernel
theorem qd187_711 : sq_in 187 711 (.aload_n 1) 1 := by decide +kernel
theorem qd187_712 : sq_in 187 712 (.aload_n 3) 1 := by decide +kernel
theorem qd187_713 : sq_in 187 713 (.invokestatic 123) 3 := by decide +kernel
theorem qd187_716 : sq_in 187 716 (.istore 5) 2 := by decide +kernel
theorem qd187_718 : sq_in 187 718 (.aload_n 2) 1 := by decide +kernel
theorem qd187_719 : sq_in 187 719 (.invokevirtual 125) 3 := by decide +kernel
theorem qd187_722 : sq_in 187 722 (.istore 6) 2 := by decide +kernel
theorem qd187_724 : sq_in 187 724 (.aload_n 2) 1 := by decide +kernel
theorem qd187_725 : sq_in 187 725 (.invokevirtual 82) 3 := by decide +kernel
theorem qd187_728 : sq_in 187 728 (.iload 5) 2 := by decide +kernel
theorem qd187_730 : sq_in 187 730 (.if_icmp .eq 5) 3 := by decide +kernel
theorem qd187_733 : sq_in 187 733 (.iconst 0) 1 := by decide +kernel
theorem qd187_734 : sq_in 187 734 (.ireturn) 1 := by decide +kernel
theorem qd187_735 : sq_in 187 735 (.iload 5) 2 := by decide +kernel
theorem qd187_737 : sq_in 187 737 (.ifCond .ne 15) 3 := by decide +kernel
theorem qd187_740 : sq_in 187 740 (.aload_n 3) 1 := by decide +kernel
theorem qd187_741 : sq_in 187 741 (.iconst 0) 1 := by decide +kernel
theorem qd187_742 : sq_in 187 742 (.laload) 1 := by decide +kernel
theorem qd187_743 : sq_in 187 743 (.iload 6) 2 := by decide +kernel
theorem qd187_745 : sq_in 187 745 (.i2l) 1 := by decide +kernel
theorem qd187_746 : sq_in 187 746 (.lcmp) 1 := by decide +kernel
theorem qd187_747 : sq_in 187 747 (.ifCond .eq 5) 3 := by decide +kernel
theorem qd187_750 : sq_in 187 750 (.iconst 0) 1 := by decide +kernel
theorem qd187_751 : sq_in 187 751 (.ireturn) 1 := by decide +kernel
theorem qd187_752 : sq_in 187 752 (.goto 623) 3 := by decide +kernel
theorem qd187_755 : sq_in 187 755 (.aload_n 1) 1 := by decide +kernel
theorem qd187_756 : sq_in 187 756 (.aload_n 0) 1 := by decide +kernel
theorem qd187_757 : sq_in 187 757 (.iload 4) 2 := by decide +kernel
theorem qd187_759 : sq_in 187 759 (.iconst 1) 1 := by decide +kernel
theorem qd187_760 : sq_in 187 760 (.iadd) 1 := by decide +kernel
theorem qd187_761 : sq_in 187 761 (.iaload) 1 := by decide +kernel
theorem qd187_762 : sq_in 187 762 (.aload_n 0) 1 := by decide +kernel
theorem qd187_763 : sq_in 187 763 (.iload 4) 2 := by decide +kernel
theorem qd187_765 : sq_in 187 765 (.iconst 2) 1 := by decide +kernel
theorem qd187_766 : sq_in 187 766 (.iadd) 1 := by decide +kernel
theorem qd187_767 : sq_in 187 767 (.iaload) 1 := by decide +kernel
theorem qd187_768 : sq_in 187 768 (.aload_n 3) 1 := by decide +kernel
theorem qd187_769 : sq_in 187 769 (.invokestatic 126) 3 := by decide +kernel
theorem qd187_772 : sq_in 187 772 (.istore 5) 2 := by decide +kernel
theorem qd187_774 : sq_in 187 774 (.aload_n 2) 1 := by decide +kernel
theorem qd187_775 : sq_in 187 775 (.aload_n 0) 1 := by decide +kernel
theorem qd187_776 : sq_in 187 776 (.iload 4) 2 := by decide +kernel
theorem qd187_778 : sq_in 187 778 (.iconst 1) 1 := by decide +kernel
theorem qd187_779 : sq_in 187 779 (.iadd) 1 := by decide +kernel
theorem qd187_780 : sq_in 187 780 (.iaload) 1 := by decide +kernel
theorem qd187_781 : sq_in 187 781 (.aload_n 0) 1 := by decide +kernel
theorem qd187_782 : sq_in 187 782 (.iload 4) 2 := by decide +kernel
theorem qd187_784 : sq_in 187 784 (.iconst 2) 1 := by decide +kernel
theorem qd187_785 : sq_in 187 785 (.iadd) 1 := by decide +kernel
theorem qd187_786 : sq_in 187 786 (.iaload) 1 := by decide +kernel
theorem qd187_787 : sq_in 187 787 (.invokevirtual 128) 3 := by decide +kernel
theorem qd187_790 : sq_in 187 790 (.istore 6) 2 := by decide +kernel
theorem qd187_792 : sq_in 187 792 (.aload_n 2) 1 := by decide +kernel
theorem qd187_793 : sq_in 187 793 (.invokevirtual 82) 3 := by decide +kernel
theorem qd187_796 : sq_in 187 796 (.iload 5) 2 := by decide +kernel
theorem qd187_798 : sq_in 187 798 (.if_icmp .eq 5) 3 := by decide +kernel
theorem qd187_801 : sq_in 187 801 (.iconst 0) 1 := by decide +kernel
theorem qd187_802 : sq_in 187 802 (.ireturn) 1 := by decide +kernel
theorem qd187_803 : sq_in 187 803 (.iload 5) 2 := by decide +kernel
theorem qd187_805 : sq_in 187 805 (.ifCond .ne 15) 3 := by decide +kernel
theorem qd187_808 : sq_in 187 808 (.aload_n 3) 1 := by decide +kernel
theorem qd187_809 : sq_in 187 809 (.iconst 0) 1 := by decide +kernel
theorem qd187_810 : sq_in 187 810 (.laload) 1 := by decide +kernel
theorem qd187_811 : sq_in 187 811 (.iload 6) 2 := by decide +kernel
theorem qd187_813 : sq_in 187 813 (.i2l) 1 := by decide +kernel
theorem qd187_814 : sq_in 187 814 (.lcmp) 1 := by decide +kernel
theorem qd187_815 : sq_in 187 815 (.ifCond .eq 5) 3 := by decide +kernel
theorem qd187_818 : sq_in 187 818 (.iconst 0) 1 := by decide +kernel
theorem qd187_819 : sq_in 187 819 (.ireturn) 1 := by decide +kernel
theorem qd187_820 : sq_in 187 820 (.goto 555) 3 := by decide +kernel
theorem qd187_823 : sq_in 187 823 (.aload_n 1) 1 := by decide +kernel
theorem qd187_824 : sq_in 187 824 (.aload_n 0) 1 := by decide +kernel
theorem qd187_825 : sq_in 187 825 (.iload 4) 2 := by decide +kernel
theorem qd187_827 : sq_in 187 827 (.iconst 1) 1 := by decide +kernel
theorem qd187_828 : sq_in 187 828 (.iadd) 1 := by decide +kernel
theorem qd187_829 : sq_in 187 829 (.iaload) 1 := by decide +kernel
theorem qd187_830 : sq_in 187 830 (.aload_n 0) 1 := by decide +kernel
theorem qd187_831 : sq_in 187 831 (.iload 4) 2 := by decide +kernel
theorem qd187_833 : sq_in 187 833 (.iconst 2) 1 := by decide +kernel
theorem qd187_834 : sq_in 187 834 (.iadd) 1 := by decide +kernel
theorem qd187_835 : sq_in 187 835 (.iaload) 1 := by decide +kernel
theorem qd187_836 : sq_in 187 836 (.aload_n 3) 1 := by decide +kernel
theorem qd187_837 : sq_in 187 837 (.invokestatic 129) 3 := by decide +kernel
theorem qd187_840 : sq_in 187 840 (.istore 5) 2 := by decide +kernel
theorem qd187_842 : sq_in 187 842 (.aload_n 2) 1 := by decide +kernel
theorem qd187_843 : sq_in 187 843 (.aload_n 0) 1 := by decide +kernel
theorem qd187_844 : sq_in 187 844 (.iload 4) 2 := by decide +kernel
theorem qd187_846 : sq_in 187 846 (.iconst 1) 1 := by decide +kernel
theorem qd187_847 : sq_in 187 847 (.iadd) 1 := by decide +kernel
theorem qd187_848 : sq_in 187 848 (.iaload) 1 := by decide +kernel
theorem qd187_849 : sq_in 187 849 (.aload_n 0) 1 := by decide +kernel
theorem qd187_850 : sq_in 187 850 (.iload 4) 2 := by decide +kernel
theorem qd187_852 : sq_in 187 852 (.iconst 2) 1 := by decide +kernel
theorem qd187_853 : sq_in 187 853 (.iadd) 1 := by decide +kernel
theorem qd187_854 : sq_in 187 854 (.iaload) 1 := by decide +kernel
theorem qd187_855 : sq_in 187 855 (.invokevirtual 131) 3 := by decide +kernel
theorem qd187_858 : sq_in 187 858 (.istore 6) 2 := by decide +kernel
theorem qd187_860 : sq_in 187 860 (.aload_n 2) 1 := by decide +kernel
theorem qd187_861 : sq_in 187 861 (.invokevirtual 82) 3 := by decide +kernel
theorem qd187_864 : sq_in 187 864 (.iload 5) 2 := by decide +kernel
theorem qd187_866 : sq_in 187 866 (.if_icmp .eq 5) 3 := by decide +kernel
theorem qd187_869 : sq_in 187 869 (.iconst 0) 1 := by decide +kernel
theorem qd187_870 : sq_in 187 870 (.ireturn) 1 := by decide +kernel
theorem qd187_871 : sq_in 187 871 (.iload 5) 2 := by decide +kernel
theorem qd187_873 : sq_in 187 873 (.ifCond .ne 15) 3 := by decide +kernel
theorem qd187_876 : sq_in 187 876 (.aload_n 3) 1 := by decide +kernel
theorem qd187_877 : sq_in 187 877 (.iconst 0) 1 := by decide +kernel
theorem qd187_878 : sq_in 187 878 (.laload) 1 := by decide +kernel
theorem qd187_879 : sq_in 187 879 (.iload 6) 2 := by decide +kernel
theorem qd187_881 : sq_in 187 881 (.i2l) 1 := by decide +kernel
theorem qd187_882 : sq_in 187 882 (.lcmp) 1 := by decide +kernel
theorem qd187_883 : sq_in 187 883 (.ifCond .eq 5) 3 := by decide +kernel
theorem qd187_886 : sq_in 187 886 (.iconst 0) 1 := by decide +kernel
theorem qd187_887 : sq_in 187 887 (.ireturn) 1 := by decide +kernel
theorem qd187_888 : sq_in 187 888 (.goto 487) 3 := by decide +kernel
theorem qd187_891 : sq_in 187 891 (.aload_n 1) 1 := by decide +kernel
theorem qd187_892 : sq_in 187 892 (.aload_n 0) 1 := by decide +kernel
theorem qd187_893 : sq_in 187 893 (.iload 4) 2 := by decide +kernel
theorem qd187_895 : sq_in 187 895 (.iconst 1) 1 := by decide +kernel
theorem qd187_896 : sq_in 187 896 (.iadd) 1 := by decide +kernel
theorem qd187_897 : sq_in 187 897 (.iaload) 1 := by decide +kernel
theorem qd187_898 : sq_in 187 898 (.aload_n 0) 1 := by decide +kernel
theorem qd187_899 : sq_in 187 899 (.iload 4) 2 := by decide +kernel
theorem qd187_901 : sq_in 187 901 (.iconst 2) 1 := by decide +kernel
theorem qd187_902 : sq_in 187 902 (.iadd) 1 := by decide +kernel
theorem qd187_903 : sq_in 187 903 (.iaload) 1 := by decide +kernel
theorem qd187_904 : sq_in 187 904 (.aload_n 3) 1 := by decide +kernel
theorem qd187_905 : sq_in 187 905 (.invokestatic 132) 3 := by decide +kernel
theorem qd187_908 : sq_in 187 908 (.istore 5) 2 := by decide +kernel
theorem qd187_910 : sq_in 187 910 (.aload_n 2) 1 := by decide +kernel
theorem qd187_911 : sq_in 187 911 (.aload_n 0) 1 := by decide +kernel
theorem qd187_912 : sq_in 187 912 (.iload 4) 2 := by decide +kernel
theorem qd187_914 : sq_in 187 914 (.iconst 1) 1 := by decide +kernel
theorem qd187_915 : sq_in 187 915 (.iadd) 1 := by decide +kernel
theorem qd187_916 : sq_in 187 916 (.iaload) 1 := by decide +kernel
theorem qd187_917 : sq_in 187 917 (.aload_n 0) 1 := by decide +kernel
theorem qd187_918 : sq_in 187 918 (.iload 4) 2 := by decide +kernel
theorem qd187_920 : sq_in 187 920 (.iconst 2) 1 := by decide +kernel
theorem qd187_921 : sq_in 187 921 (.iadd) 1 := by decide +kernel
theorem qd187_922 : sq_in 187 922 (.iaload) 1 := by decide +kernel
theorem qd187_923 : sq_in 187 923 (.invokevirtual 134) 3 := by decide +kernel
theorem qd187_926 : sq_in 187 926 (.istore 6) 2 := by decide +kernel
theorem qd187_928 : sq_in 187 928 (.aload_n 2) 1 := by decide +kernel
theorem qd187_929 : sq_in 187 929 (.invokevirtual 82) 3 := by decide +kernel
theorem qd187_932 : sq_in 187 932 (.iload 5) 2 := by decide +kernel
theorem qd187_934 : sq_in 187 934 (.if_icmp .eq 5) 3 := by decide +kernel
theorem qd187_937 : sq_in 187 937 (.iconst 0) 1 := by decide +kernel
theorem qd187_938 : sq_in 187 938 (.ireturn) 1 := by decide +kernel
theorem qd187_939 : sq_in 187 939 (.iload 5) 2 := by decide +kernel
theorem qd187_941 : sq_in 187 941 (.ifCond .ne 15) 3 := by decide +kernel
theorem qd187_944 : sq_in 187 944 (.aload_n 3) 1 := by decide +kernel
theorem qd187_945 : sq_in 187 945 (.iconst 0) 1 := by decide +kernel
theorem qd187_946 : sq_in 187 946 (.laload) 1 := by decide +kernel
theorem qd187_947 : sq_in 187 947 (.iload 6) 2 := by decide +kernel
theorem qd187_949 : sq_in 187 949 (.i2l) 1 := by decide +kernel
theorem qd187_950 : sq_in 187 950 (.lcmp) 1 := by decide +kernel
theorem qd187_951 : sq_in 187 951 (.ifCond .eq 5) 3 := by decide +kernel
theorem qd187_954 : sq_in 187 954 (.iconst 0) 1 := by decide +kernel
theorem qd187_955 : sq_in 187 955 (.ireturn) 1 := by decide +kernel
theorem qd187_956 : sq_in 187 956 (.goto 419) 3 := by decide +kernel
theorem qd187_959 : sq_in 187 959 (.aload_n 1) 1 := by decide +kernel
theorem qd187_960 : sq_in 187 960 (.aload_n 0) 1 := by decide +kernel
theorem qd187_961 : sq_in 187 961 (.iload 4) 2 := by decide +kernel
theorem qd187_963 : sq_in 187 963 (.iconst 1) 1 := by decide +kernel
theorem qd187_964 : sq_in 187 964 (.iadd) 1 := by decide +kernel
theorem qd187_965 : sq_in 187 965 (.iaload) 1 := by decide +kernel
theorem qd187_966 : sq_in 187 966 (.aload_n 3) 1 := by decide +kernel
theorem qd187_967 : sq_in 187 967 (.invokestatic 135) 3 := by decide +kernel
theorem qd187_970 : sq_in 187 970 (.istore 5) 2 := by decide +kernel
theorem qd187_972 : sq_in 187 972 (.aload_n 2) 1 := by decide +kernel
theorem qd187_973 : sq_in 187 973 (.aload_n 0) 1 := by decide +kernel
theorem qd187_974 : sq_in 187 974 (.iload 4) 2 := by decide +kernel
theorem qd187_976 : sq_in 187 976 (.iconst 1) 1 := by decide +kernel
theorem qd187_977 : sq_in 187 977 (.iadd) 1 := by decide +kernel
theorem qd187_978 : sq_in 187 978 (.iaload) 1 := by decide +kernel
theorem qd187_979 : sq_in 187 979 (.invokevirtual 137) 3 := by decide +kernel
theorem qd187_982 : sq_in 187 982 (.istore 6) 2 := by decide +kernel
theorem qd187_984 : sq_in 187 984 (.aload_n 2) 1 := by decide +kernel
theorem qd187_985 : sq_in 187 985 (.invokevirtual 82) 3 := by decide +kernel
theorem qd187_988 : sq_in 187 988 (.iload 5) 2 := by decide +kernel
theorem qd187_990 : sq_in 187 990 (.if_icmp .eq 5) 3 := by decide +kernel
theorem qd187_993 : sq_in 187 993 (.iconst 0) 1 := by decide +kernel
theorem qd187_994 : sq_in 187 994 (.ireturn) 1 := by decide +kernel
theorem qd187_995 : sq_in 187 995 (.iload 5) 2 := by decide +kernel
theorem qd187_997 : sq_in 187 997 (.ifCond .ne 15) 3 := by decide +kernel
theorem qd187_1000 : sq_in 187 1000 (.aload_n 3) 1 := by decide +kernel
theorem qd187_1001 : sq_in 187 1001 (.iconst 0) 1 := by decide +kernel
theorem qd187_1002 : sq_in 187 1002 (.laload) 1 := by decide +kernel
theorem qd187_1003 : sq_in 187 1003 (.iload 6) 2 := by decide +kernel
theorem qd187_1005 : sq_in 187 1005 (.i2l) 1 := by decide +kernel
theorem qd187_1006 : sq_in 187 1006 (.lcmp) 1 := by decide +kernel
theorem qd187_1007 : sq_in 187 1007 (.ifCond .eq 5) 3 := by decide +kernel
theorem qd187_1010 : sq_in 187 1010 (.iconst 0) 1 := by decide +kernel
theorem qd187_1011 : sq_in 187 1011 (.ireturn) 1 := by decide +kernel
theorem qd187_1012 : sq_in 187 1012 (.goto 363) 3 := by decide +kernel
theorem qd187_1015 : sq_in 187 1015 (.aload_n 1) 1 := by decide +kernel
theorem qd187_1016 : sq_in 187 1016 (.aload_n 0) 1 := by decide +kernel
theorem qd187_1017 : sq_in 187 1017 (.iload 4) 2 := by decide +kernel
theorem qd187_1019 : sq_in 187 1019 (.iconst 1) 1 := by decide +kernel
theorem qd187_1020 : sq_in 187 1020 (.iadd) 1 := by decide +kernel
theorem qd187_1021 : sq_in 187 1021 (.iaload) 1 := by decide +kernel
theorem qd187_1022 : sq_in 187 1022 (.aload_n 3) 1 := by decide +kernel
theorem qd187_1023 : sq_in 187 1023 (.invokestatic 138) 3 := by decide +kernel
theorem qd187_1026 : sq_in 187 1026 (.istore 5) 2 := by decide +kernel
theorem qd187_1028 : sq_in 187 1028 (.aload_n 2) 1 := by decide +kernel
theorem qd187_1029 : sq_in 187 1029 (.aload_n 0) 1 := by decide +kernel
theorem qd187_1030 : sq_in 187 1030 (.iload 4) 2 := by decide +kernel
theorem qd187_1032 : sq_in 187 1032 (.iconst 1) 1 := by decide +kernel
theorem qd187_1033 : sq_in 187 1033 (.iadd) 1 := by decide +kernel
theorem qd187_1034 : sq_in 187 1034 (.iaload) 1 := by decide +kernel
theorem qd187_1035 : sq_in 187 1035 (.invokevirtual 140) 3 := by decide +kernel
theorem qd187_1038 : sq_in 187 1038 (.istore 6) 2 := by decide +kernel
theorem qd187_1040 : sq_in 187 1040 (.aload_n 2) 1 := by decide +kernel
theorem qd187_1041 : sq_in 187 1041 (.invokevirtual 82) 3 := by decide +kernel
theorem qd187_1044 : sq_in 187 1044 (.iload 5) 2 := by decide +kernel
theorem qd187_1046 : sq_in 187 1046 (.if_icmp .eq 5) 3 := by decide +kernel
theorem qd187_1049 : sq_in 187 1049 (.iconst 0) 1 := by decide +kernel
theorem qd187_1050 : sq_in 187 1050 (.ireturn) 1 := by decide +kernel
theorem qd187_1051 : sq_in 187 1051 (.iload 5) 2 := by decide +kernel
theorem qd187_1053 : sq_in 187 1053 (.ifCond .ne 15) 3 := by decide +kernel
theorem qd187_1056 : sq_in 187 1056 (.aload_n 3) 1 := by decide +kernel
theorem qd187_1057 : sq_in 187 1057 (.iconst 0) 1 := by decide +kernel
theorem qd187_1058 : sq_in 187 1058 (.laload) 1 := by decide +kernel
theorem qd187_1059 : sq_in 187 1059 (.iload 6) 2 := by decide +kernel
theorem qd187_1061 : sq_in 187 1061 (.i2l) 1 := by decide +kernel
theorem qd187_1062 : sq_in 187 1062 (.lcmp) 1 := by decide +kernel
theorem qd187_1063 : sq_in 187 1063 (.ifCond .eq 5) 3 := by decide +kernel
theorem qd187_1066 : sq_in 187 1066 (.iconst 0) 1 := by decide +kernel
theorem qd187_1067 : sq_in 187 1067 (.ireturn) 1 := by decide +kernel
theorem qd187_1068 : sq_in 187 1068 (.goto 307) 3 := by decide +kernel
theorem qd187_1071 : sq_in 187 1071 (.aload_n 1) 1 := by decide +kernel
theorem qd187_1072 : sq_in 187 1072 (.aload_n 0) 1 := by decide +kernel
theorem qd187_1073 : sq_in 187 1073 (.iload 4) 2 := by decide +kernel
theorem qd187_1075 : sq_in 187 1075 (.iconst 1) 1 := by decide +kernel
theorem qd187_1076 : sq_in 187 1076 (.iadd) 1 := by decide +kernel
theorem qd187_1077 : sq_in 187 1077 (.iaload) 1 := by decide +kernel
theorem qd187_1078 : sq_in 187 1078 (.aload_n 3) 1 := by decide +kernel
theorem qd187_1079 : sq_in 187 1079 (.invokestatic 141) 3 := by decide +kernel
theorem qd187_1082 : sq_in 187 1082 (.istore 5) 2 := by decide +kernel
theorem qd187_1084 : sq_in 187 1084 (.aload_n 2) 1 := by decide +kernel
theorem qd187_1085 : sq_in 187 1085 (.aload_n 0) 1 := by decide +kernel
theorem qd187_1086 : sq_in 187 1086 (.iload 4) 2 := by decide +kernel
theorem qd187_1088 : sq_in 187 1088 (.iconst 1) 1 := by decide +kernel
theorem qd187_1089 : sq_in 187 1089 (.iadd) 1 := by decide +kernel
theorem qd187_1090 : sq_in 187 1090 (.iaload) 1 := by decide +kernel
theorem qd187_1091 : sq_in 187 1091 (.invokevirtual 143) 3 := by decide +kernel
theorem qd187_1094 : sq_in 187 1094 (.istore 6) 2 := by decide +kernel
theorem qd187_1096 : sq_in 187 1096 (.aload_n 2) 1 := by decide +kernel
theorem qd187_1097 : sq_in 187 1097 (.invokevirtual 82) 3 := by decide +kernel
theorem qd187_1100 : sq_in 187 1100 (.iload 5) 2 := by decide +kernel
theorem qd187_1102 : sq_in 187 1102 (.if_icmp .eq 5) 3 := by decide +kernel
theorem qd187_1105 : sq_in 187 1105 (.iconst 0) 1 := by decide +kernel
theorem qd187_1106 : sq_in 187 1106 (.ireturn) 1 := by decide +kernel
theorem qd187_1107 : sq_in 187 1107 (.iload 5) 2 := by decide +kernel
theorem qd187_1109 : sq_in 187 1109 (.ifCond .ne 15) 3 := by decide +kernel
theorem qd187_1112 : sq_in 187 1112 (.aload_n 3) 1 := by decide +kernel
theorem qd187_1113 : sq_in 187 1113 (.iconst 0) 1 := by decide +kernel
theorem qd187_1114 : sq_in 187 1114 (.laload) 1 := by decide +kernel
theorem qd187_1115 : sq_in 187 1115 (.iload 6) 2 := by decide +kernel
theorem qd187_1117 : sq_in 187 1117 (.i2l) 1 := by decide +kernel
theorem qd187_1118 : sq_in 187 1118 (.lcmp) 1 := by decide +kernel
theorem qd187_1119 : sq_in 187 1119 (.ifCond .eq 5) 3 := by decide +kernel
theorem qd187_1122 : sq_in 187 1122 (.iconst 0) 1 := by decide +kernel
theorem qd187_1123 : sq_in 187 1123 (.ireturn) 1 := by decide +kernel
theorem qd187_1124 : sq_in 187 1124 (.goto 251) 3 := by decide +kernel
theorem qd187_1127 : sq_in 187 1127 (.aload_n 1) 1 := by decide +kernel
theorem qd187_1128 : sq_in 187 1128 (.invokevirtual 144) 3 := by decide +kernel
theorem qd187_1131 : sq_in 187 1131 (.aload_n 2) 1 := by decide +kernel
theorem qd187_1132 : sq_in 187 1132 (.invokevirtual 147) 3 := by decide +kernel
theorem qd187_1135 : sq_in 187 1135 (.if_icmp .eq 240) 3 := by decide +kernel
theorem qd187_1138 : sq_in 187 1138 (.iconst 0) 1 := by decide +kernel
theorem qd187_1139 : sq_in 187 1139 (.ireturn) 1 := by decide +kernel
theorem qd187_1140 : sq_in 187 1140 (.aload_n 1) 1 := by decide +kernel
theorem qd187_1141 : sq_in 187 1141 (.invokevirtual 148) 3 := by decide +kernel
theorem qd187_1144 : sq_in 187 1144 (.aload_n 2) 1 := by decide +kernel
theorem qd187_1145 : sq_in 187 1145 (.invokevirtual 151) 3 := by decide +kernel
theorem qd187_1148 : sq_in 187 1148 (.if_icmp .eq 227) 3 := by decide +kernel
theorem qd187_1151 : sq_in 187 1151 (.iconst 0) 1 := by decide +kernel
theorem qd187_1152 : sq_in 187 1152 (.ireturn) 1 := by decide +kernel
theorem qd187_1153 : sq_in 187 1153 (.aload_n 1) 1 := by decide +kernel
theorem qd187_1154 : sq_in 187 1154 (.aload_n 0) 1 := by decide +kernel
theorem qd187_1155 : sq_in 187 1155 (.iload 4) 2 := by decide +kernel
theorem qd187_1157 : sq_in 187 1157 (.iconst 1) 1 := by decide +kernel
theorem qd187_1158 : sq_in 187 1158 (.iadd) 1 := by decide +kernel
theorem qd187_1159 : sq_in 187 1159 (.iaload) 1 := by decide +kernel
theorem qd187_1160 : sq_in 187 1160 (.aload_n 3) 1 := by decide +kernel
theorem qd187_1161 : sq_in 187 1161 (.invokestatic 152) 3 := by decide +kernel
theorem qd187_1164 : sq_in 187 1164 (.istore 5) 2 := by decide +kernel
theorem qd187_1166 : sq_in 187 1166 (.aload_n 2) 1 := by decide +kernel
theorem qd187_1167 : sq_in 187 1167 (.aload_n 0) 1 := by decide +kernel
theorem qd187_1168 : sq_in 187 1168 (.iload 4) 2 := by decide +kernel
theorem qd187_1170 : sq_in 187 1170 (.iconst 1) 1 := by decide +kernel
theorem qd187_1171 : sq_in 187 1171 (.iadd) 1 := by decide +kernel
theorem qd187_1172 : sq_in 187 1172 (.iaload) 1 := by decide +kernel
theorem qd187_1173 : sq_in 187 1173 (.invokevirtual 154) 3 := by decide +kernel
theorem qd187_1176 : sq_in 187 1176 (.istore 6) 2 := by decide +kernel
theorem qd187_1178 : sq_in 187 1178 (.aload_n 2) 1 := by decide +kernel
theorem qd187_1179 : sq_in 187 1179 (.invokevirtual 82) 3 := by decide +kernel
theorem qd187_1182 : sq_in 187 1182 (.iload 5) 2 := by decide +kernel
theorem qd187_1184 : sq_in 187 1184 (.if_icmp .eq 5) 3 := by decide +kernel
theorem qd187_1187 : sq_in 187 1187 (.iconst 0) 1 := by decide +kernel
theorem qd187_1188 : sq_in 187 1188 (.ireturn) 1 := by decide +kernel
theorem qd187_1189 : sq_in 187 1189 (.iload 5) 2 := by decide +kernel
theorem qd187_1191 : sq_in 187 1191 (.ifCond .ne 15) 3 := by decide +kernel
theorem qd187_1194 : sq_in 187 1194 (.aload_n 3) 1 := by decide +kernel
theorem qd187_1195 : sq_in 187 1195 (.iconst 0) 1 := by decide +kernel
theorem qd187_1196 : sq_in 187 1196 (.laload) 1 := by decide +kernel
theorem qd187_1197 : sq_in 187 1197 (.iload 6) 2 := by decide +kernel
theorem qd187_1199 : sq_in 187 1199 (.i2l) 1 := by decide +kernel
theorem qd187_1200 : sq_in 187 1200 (.lcmp) 1 := by decide +kernel
theorem qd187_1201 : sq_in 187 1201 (.ifCond .eq 5) 3 := by decide +kernel
theorem qd187_1204 : sq_in 187 1204 (.iconst 0) 1 := by decide +kernel
theorem qd187_1205 : sq_in 187 1205 (.ireturn) 1 := by decide +kernel
theorem qd187_1206 : sq_in 187 1206 (.goto 169) 3 := by decide +kernel
theorem qd187_1209 : sq_in 187 1209 (.aload_n 1) 1 := by decide +kernel
theorem qd187_1210 : sq_in 187 1210 (.aload_n 0) 1 := by decide +kernel
theorem qd187_1211 : sq_in 187 1211 (.iload 4) 2 := by decide +kernel
theorem qd187_1213 : sq_in 187 1213 (.iconst 1) 1 := by decide +kernel
theorem qd187_1214 : sq_in 187 1214 (.iadd) 1 := by decide +kernel
theorem qd187_1215 : sq_in 187 1215 (.iaload) 1 := by decide +kernel
theorem qd187_1216 : sq_in 187 1216 (.aload_n 0) 1 := by decide +kernel
theorem qd187_1217 : sq_in 187 1217 (.iload 4) 2 := by decide +kernel
theorem qd187_1219 : sq_in 187 1219 (.iconst 2) 1 := by decide +kernel
theorem qd187_1220 : sq_in 187 1220 (.iadd) 1 := by decide +kernel
theorem qd187_1221 : sq_in 187 1221 (.iaload) 1 := by decide +kernel
theorem qd187_1222 : sq_in 187 1222 (.aload_n 3) 1 := by decide +kernel
theorem qd187_1223 : sq_in 187 1223 (.invokestatic 155) 3 := by decide +kernel
theorem qd187_1226 : sq_in 187 1226 (.istore 5) 2 := by decide +kernel
theorem qd187_1228 : sq_in 187 1228 (.aload_n 2) 1 := by decide +kernel
theorem qd187_1229 : sq_in 187 1229 (.aload_n 0) 1 := by decide +kernel
theorem qd187_1230 : sq_in 187 1230 (.iload 4) 2 := by decide +kernel
theorem qd187_1232 : sq_in 187 1232 (.iconst 1) 1 := by decide +kernel
theorem qd187_1233 : sq_in 187 1233 (.iadd) 1 := by decide +kernel
theorem qd187_1234 : sq_in 187 1234 (.iaload) 1 := by decide +kernel
theorem qd187_1235 : sq_in 187 1235 (.aload_n 0) 1 := by decide +kernel
theorem qd187_1236 : sq_in 187 1236 (.iload 4) 2 := by decide +kernel
theorem qd187_1238 : sq_in 187 1238 (.iconst 2) 1 := by decide +kernel
theorem qd187_1239 : sq_in 187 1239 (.iadd) 1 := by decide +kernel
theorem qd187_1240 : sq_in 187 1240 (.iaload) 1 := by decide +kernel
theorem qd187_1241 : sq_in 187 1241 (.invokevirtual 157) 3 := by decide +kernel
theorem qd187_1244 : sq_in 187 1244 (.istore 6) 2 := by decide +kernel
theorem qd187_1246 : sq_in 187 1246 (.aload_n 2) 1 := by decide +kernel
theorem qd187_1247 : sq_in 187 1247 (.invokevirtual 82) 3 := by decide +kernel
theorem qd187_1250 : sq_in 187 1250 (.iload 5) 2 := by decide +kernel
theorem qd187_1252 : sq_in 187 1252 (.if_icmp .eq 5) 3 := by decide +kernel
theorem qd187_1255 : sq_in 187 1255 (.iconst 0) 1 := by decide +kernel
theorem qd187_1256 : sq_in 187 1256 (.ireturn) 1 := by decide +kernel
theorem qd187_1257 : sq_in 187 1257 (.iload 5) 2 := by decide +kernel
theorem qd187_1259 : sq_in 187 1259 (.ifCond .ne 15) 3 := by decide +kernel
theorem qd187_1262 : sq_in 187 1262 (.aload_n 3) 1 := by decide +kernel
theorem qd187_1263 : sq_in 187 1263 (.iconst 0) 1 := by decide +kernel
theorem qd187_1264 : sq_in 187 1264 (.laload) 1 := by decide +kernel
theorem qd187_1265 : sq_in 187 1265 (.iload 6) 2 := by decide +kernel
theorem qd187_1267 : sq_in 187 1267 (.i2l) 1 := by decide +kernel
theorem qd187_1268 : sq_in 187 1268 (.lcmp) 1 := by decide +kernel
theorem qd187_1269 : sq_in 187 1269 (.ifCond .eq 5) 3 := by decide +kernel
theorem qd187_1272 : sq_in 187 1272 (.iconst 0) 1 := by decide +kernel
theorem qd187_1273 : sq_in 187 1273 (.ireturn) 1 := by decide +kernel
theorem qd187_1274 : sq_in 187 1274 (.goto 101) 3 := by decide +kernel
theorem qd187_1277 : sq_in 187 1277 (.aload_n 1) 1 := by decide +kernel
theorem qd187_1278 : sq_in 187 1278 (.invokevirtual 158) 3 := by decide +kernel
theorem qd187_1281 : sq_in 187 1281 (.dstore 5) 2 := by decide +kernel
theorem qd187_1283 : sq_in 187 1283 (.aload_n 2) 1 := by decide +kernel
theorem qd187_1284 : sq_in 187 1284 (.invokevirtual 162) 3 := by decide +kernel
theorem qd187_1287 : sq_in 187 1287 (.dstore 7) 2 := by decide +kernel
theorem qd187_1289 : sq_in 187 1289 (.dload 5) 2 := by decide +kernel
theorem qd187_1291 : sq_in 187 1291 (.dload 7) 2 := by decide +kernel
theorem qd187_1293 : sq_in 187 1293 (.dcmp .l) 1 := by decide +kernel
theorem qd187_1294 : sq_in 187 1294 (.ifCond .eq 21) 3 := by decide +kernel
theorem qd187_1297 : sq_in 187 1297 (.dload 5) 2 := by decide +kernel
theorem qd187_1299 : sq_in 187 1299 (.dload 5) 2 := by decide +kernel
theorem qd187_1301 : sq_in 187 1301 (.dcmp .l) 1 := by decide +kernel
theorem qd187_1302 : sq_in 187 1302 (.ifCond .eq 11) 3 := by decide +kernel
theorem qd187_1305 : sq_in 187 1305 (.dload 7) 2 := by decide +kernel
theorem qd187_1307 : sq_in 187 1307 (.dload 7) 2 := by decide +kernel
theorem qd187_1309 : sq_in 187 1309 (.dcmp .l) 1 := by decide +kernel
theorem qd187_1310 : sq_in 187 1310 (.ifCond .ne 5) 3 := by decide +kernel
theorem qd187_1313 : sq_in 187 1313 (.iconst 0) 1 := by decide +kernel
theorem qd187_1314 : sq_in 187 1314 (.ireturn) 1 := by decide +kernel
theorem qd187_1315 : sq_in 187 1315 (.goto 60) 3 := by decide +kernel
theorem qd187_1318 : sq_in 187 1318 (.aload_n 1) 1 := by decide +kernel
theorem qd187_1319 : sq_in 187 1319 (.invokevirtual 163) 3 := by decide +kernel
theorem qd187_1322 : sq_in 187 1322 (.f2d) 1 := by decide +kernel
theorem qd187_1323 : sq_in 187 1323 (.dstore 5) 2 := by decide +kernel
theorem qd187_1325 : sq_in 187 1325 (.aload_n 2) 1 := by decide +kernel
theorem qd187_1326 : sq_in 187 1326 (.invokevirtual 167) 3 := by decide +kernel
theorem qd187_1329 : sq_in 187 1329 (.f2d) 1 := by decide +kernel
theorem qd187_1330 : sq_in 187 1330 (.dstore 7) 2 := by decide +kernel
theorem qd187_1332 : sq_in 187 1332 (.dload 5) 2 := by decide +kernel
theorem qd187_1334 : sq_in 187 1334 (.dload 7) 2 := by decide +kernel
theorem qd187_1336 : sq_in 187 1336 (.dcmp .l) 1 := by decide +kernel
theorem qd187_1337 : sq_in 187 1337 (.ifCond .eq 21) 3 := by decide +kernel
theorem qd187_1340 : sq_in 187 1340 (.dload 5) 2 := by decide +kernel
theorem qd187_1342 : sq_in 187 1342 (.dload 5) 2 := by decide +kernel
theorem qd187_1344 : sq_in 187 1344 (.dcmp .l) 1 := by decide +kernel
theorem qd187_1345 : sq_in 187 1345 (.ifCond .eq 11) 3 := by decide +kernel
theorem qd187_1348 : sq_in 187 1348 (.dload 7) 2 := by decide +kernel
theorem qd187_1350 : sq_in 187 1350 (.dload 7) 2 := by decide +kernel
theorem qd187_1352 : sq_in 187 1352 (.dcmp .l) 1 := by decide +kernel
theorem qd187_1353 : sq_in 187 1353 (.ifCond .ne 5) 3 := by decide +kernel
theorem qd187_1356 : sq_in 187 1356 (.iconst 0) 1 := by decide +kernel
theorem qd187_1357 : sq_in 187 1357 (.ireturn) 1 := by decide +kernel
theorem qd187_1358 : sq_in 187 1358 (.goto 17) 3 := by decide +kernel
theorem qd187_1361 : sq_in 187 1361 (.aload_n 1) 1 := by decide +kernel
theorem qd187_1362 : sq_in 187 1362 (.invokevirtual 168) 3 := by decide +kernel
theorem qd187_1365 : sq_in 187 1365 (.aload_n 2) 1 := by decide +kernel
theorem qd187_1366 : sq_in 187 1366 (.invokevirtual 172) 3 := by decide +kernel
theorem qd187_1369 : sq_in 187 1369 (.lcmp) 1 := by decide +kernel
theorem qd187_1370 : sq_in 187 1370 (.ifCond .eq 5) 3 := by decide +kernel
theorem qd187_1373 : sq_in 187 1373 (.iconst 0) 1 := by decide +kernel
theorem qd187_1374 : sq_in 187 1374 (.ireturn) 1 := by decide +kernel
theorem qd187_1375 : sq_in 187 1375 (.iinc 4 3) 3 := by decide +kernel
theorem qd187_1378 : sq_in 187 1378 (.goto (-1355)) 3 := by decide +kernel
theorem qd187_1381 : sq_in 187 1381 (.iconst 1) 1 := by decide +kernel
theorem qd187_1382 : sq_in 187 1382 (.ireturn) 1 := by decide +kernel
end
