section
-- ===== PART A: goes FIRST, ahead of the names: the tables' words, and 'selects' of the private methods out of them =====
/-- a private method of a class that the tables say can be made, by its rows of tables_1 -/
def lw_okq (q : MethodName × Nat) : Prop := (q.1.cls ≠ "java/lang/invoke/MethodHandle" ∧ q.1.cls ≠ "java/lang/invoke/VarHandle") ∧ Cond.instantiable q.1.cls q.2 ∈ tables_1 ∧ Cond.privateMethod q.1 ∈ tables_1 ∧ Cond.instanceMethod q.1 ∈ tables_1
theorem lw_p0 : lw_okq (⟨"LinkNames", "stepped", "(I)I"⟩, 8) := ⟨⟨by decide +kernel, by decide +kernel⟩, List.mem_of_getElem? (i := 14) (by decide +kernel), List.mem_of_getElem? (i := 321) (by decide +kernel), List.mem_of_getElem? (i := 322) (by decide +kernel)⟩
theorem lw_p1 : lw_okq (⟨"LinkNames", "counted", "(I)I"⟩, 8) := ⟨⟨by decide +kernel, by decide +kernel⟩, List.mem_of_getElem? (i := 14) (by decide +kernel), List.mem_of_getElem? (i := 332) (by decide +kernel), List.mem_of_getElem? (i := 333) (by decide +kernel)⟩
theorem lw_p2 : lw_okq (⟨"LinkNames", "perform", "(I)I"⟩, 8) := ⟨⟨by decide +kernel, by decide +kernel⟩, List.mem_of_getElem? (i := 14) (by decide +kernel), List.mem_of_getElem? (i := 677) (by decide +kernel), List.mem_of_getElem? (i := 678) (by decide +kernel)⟩
theorem lw_p3 : lw_okq (⟨"LinkNames", "digestOfHost", "(JI)J"⟩, 8) := ⟨⟨by decide +kernel, by decide +kernel⟩, List.mem_of_getElem? (i := 14) (by decide +kernel), List.mem_of_getElem? (i := 718) (by decide +kernel), List.mem_of_getElem? (i := 719) (by decide +kernel)⟩
theorem lw_p4 : lw_okq (⟨"LinkNamesModel", "canHost", "()I"⟩, 16) := ⟨⟨by decide +kernel, by decide +kernel⟩, List.mem_of_getElem? (i := 727) (by decide +kernel), List.mem_of_getElem? (i := 788) (by decide +kernel), List.mem_of_getElem? (i := 789) (by decide +kernel)⟩
theorem lw_p5 : lw_okq (⟨"LinkNamesModel", "refuses", "(I)I"⟩, 16) := ⟨⟨by decide +kernel, by decide +kernel⟩, List.mem_of_getElem? (i := 727) (by decide +kernel), List.mem_of_getElem? (i := 792) (by decide +kernel), List.mem_of_getElem? (i := 793) (by decide +kernel)⟩
theorem lw_p6 : lw_okq (⟨"LinkNamesModel", "keep", "()V"⟩, 16) := ⟨⟨by decide +kernel, by decide +kernel⟩, List.mem_of_getElem? (i := 727) (by decide +kernel), List.mem_of_getElem? (i := 796) (by decide +kernel), List.mem_of_getElem? (i := 797) (by decide +kernel)⟩
theorem lw_p7 : lw_okq (⟨"LinkNamesModel", "hostNow", "()I"⟩, 16) := ⟨⟨by decide +kernel, by decide +kernel⟩, List.mem_of_getElem? (i := 727) (by decide +kernel), List.mem_of_getElem? (i := 800) (by decide +kernel), List.mem_of_getElem? (i := 801) (by decide +kernel)⟩
theorem lw_p8 : lw_okq (⟨"LinkNamesModel", "canRecord", "(IIIII)I"⟩, 16) := ⟨⟨by decide +kernel, by decide +kernel⟩, List.mem_of_getElem? (i := 727) (by decide +kernel), List.mem_of_getElem? (i := 808) (by decide +kernel), List.mem_of_getElem? (i := 809) (by decide +kernel)⟩
theorem lw_p9 : lw_okq (⟨"LinkNamesModel", "isHost", "(I)Z"⟩, 16) := ⟨⟨by decide +kernel, by decide +kernel⟩, List.mem_of_getElem? (i := 727) (by decide +kernel), List.mem_of_getElem? (i := 812) (by decide +kernel), List.mem_of_getElem? (i := 813) (by decide +kernel)⟩
theorem lw_p10 : lw_okq (⟨"LinkNamesModel", "records", "(I)I"⟩, 16) := ⟨⟨by decide +kernel, by decide +kernel⟩, List.mem_of_getElem? (i := 727) (by decide +kernel), List.mem_of_getElem? (i := 827) (by decide +kernel), List.mem_of_getElem? (i := 828) (by decide +kernel)⟩
theorem lw_p11 : lw_okq (⟨"LinkNamesModel", "isAwake", "(I)Z"⟩, 16) := ⟨⟨by decide +kernel, by decide +kernel⟩, List.mem_of_getElem? (i := 727) (by decide +kernel), List.mem_of_getElem? (i := 834) (by decide +kernel), List.mem_of_getElem? (i := 835) (by decide +kernel)⟩
theorem lw_p12 : lw_okq (⟨"LinkNamesModel", "recordNow", "(IIIIIZ)I"⟩, 16) := ⟨⟨by decide +kernel, by decide +kernel⟩, List.mem_of_getElem? (i := 727) (by decide +kernel), List.mem_of_getElem? (i := 838) (by decide +kernel), List.mem_of_getElem? (i := 839) (by decide +kernel)⟩
theorem lw_p13 : lw_okq (⟨"LinkNamesModel", "says", "(II)V"⟩, 16) := ⟨⟨by decide +kernel, by decide +kernel⟩, List.mem_of_getElem? (i := 727) (by decide +kernel), List.mem_of_getElem? (i := 842) (by decide +kernel), List.mem_of_getElem? (i := 843) (by decide +kernel)⟩
theorem lw_p14 : lw_okq (⟨"LinkNamesModel", "hears", "(II)V"⟩, 16) := ⟨⟨by decide +kernel, by decide +kernel⟩, List.mem_of_getElem? (i := 727) (by decide +kernel), List.mem_of_getElem? (i := 846) (by decide +kernel), List.mem_of_getElem? (i := 847) (by decide +kernel)⟩
theorem lw_p15 : lw_okq (⟨"LinkNamesModel", "hasSame", "(II)Z"⟩, 16) := ⟨⟨by decide +kernel, by decide +kernel⟩, List.mem_of_getElem? (i := 727) (by decide +kernel), List.mem_of_getElem? (i := 850) (by decide +kernel), List.mem_of_getElem? (i := 851) (by decide +kernel)⟩
def lw_privs_1 : List (MethodName × Nat) := [(⟨"LinkNames", "stepped", "(I)I"⟩, 8), (⟨"LinkNames", "counted", "(I)I"⟩, 8), (⟨"LinkNames", "perform", "(I)I"⟩, 8), (⟨"LinkNames", "digestOfHost", "(JI)J"⟩, 8), (⟨"LinkNamesModel", "canHost", "()I"⟩, 16), (⟨"LinkNamesModel", "refuses", "(I)I"⟩, 16), (⟨"LinkNamesModel", "keep", "()V"⟩, 16), (⟨"LinkNamesModel", "hostNow", "()I"⟩, 16), (⟨"LinkNamesModel", "canRecord", "(IIIII)I"⟩, 16), (⟨"LinkNamesModel", "isHost", "(I)Z"⟩, 16), (⟨"LinkNamesModel", "records", "(I)I"⟩, 16), (⟨"LinkNamesModel", "isAwake", "(I)Z"⟩, 16), (⟨"LinkNamesModel", "recordNow", "(IIIIIZ)I"⟩, 16), (⟨"LinkNamesModel", "says", "(II)V"⟩, 16), (⟨"LinkNamesModel", "hears", "(II)V"⟩, 16), (⟨"LinkNamesModel", "hasSame", "(II)Z"⟩, 16)]
theorem lw_r1 : ∀ q ∈ lw_privs_1, lw_okq q := List.forall_mem_cons.mpr ⟨lw_p0, List.forall_mem_cons.mpr ⟨lw_p1, List.forall_mem_cons.mpr ⟨lw_p2, List.forall_mem_cons.mpr ⟨lw_p3, List.forall_mem_cons.mpr ⟨lw_p4, List.forall_mem_cons.mpr ⟨lw_p5, List.forall_mem_cons.mpr ⟨lw_p6, List.forall_mem_cons.mpr ⟨lw_p7, List.forall_mem_cons.mpr ⟨lw_p8, List.forall_mem_cons.mpr ⟨lw_p9, List.forall_mem_cons.mpr ⟨lw_p10, List.forall_mem_cons.mpr ⟨lw_p11, List.forall_mem_cons.mpr ⟨lw_p12, List.forall_mem_cons.mpr ⟨lw_p13, List.forall_mem_cons.mpr ⟨lw_p14, List.forall_mem_cons.mpr ⟨lw_p15, fun _ h => absurd h List.not_mem_nil⟩⟩⟩⟩⟩⟩⟩⟩⟩⟩⟩⟩⟩⟩⟩⟩
theorem lw_p16 : lw_okq (⟨"LinkNamesModel", "areSame", "(II)Z"⟩, 16) := ⟨⟨by decide +kernel, by decide +kernel⟩, List.mem_of_getElem? (i := 727) (by decide +kernel), List.mem_of_getElem? (i := 854) (by decide +kernel), List.mem_of_getElem? (i := 855) (by decide +kernel)⟩
theorem lw_p17 : lw_okq (⟨"LinkNamesModel", "areOne", "(II)Z"⟩, 16) := ⟨⟨by decide +kernel, by decide +kernel⟩, List.mem_of_getElem? (i := 727) (by decide +kernel), List.mem_of_getElem? (i := 858) (by decide +kernel), List.mem_of_getElem? (i := 859) (by decide +kernel)⟩
theorem lw_p18 : lw_okq (⟨"LinkNamesModel", "entries", "(I)I"⟩, 16) := ⟨⟨by decide +kernel, by decide +kernel⟩, List.mem_of_getElem? (i := 727) (by decide +kernel), List.mem_of_getElem? (i := 862) (by decide +kernel), List.mem_of_getElem? (i := 863) (by decide +kernel)⟩
theorem lw_p19 : lw_okq (⟨"LinkNamesModel", "dropsEntry", "(II)V"⟩, 16) := ⟨⟨by decide +kernel, by decide +kernel⟩, List.mem_of_getElem? (i := 727) (by decide +kernel), List.mem_of_getElem? (i := 869) (by decide +kernel), List.mem_of_getElem? (i := 870) (by decide +kernel)⟩
theorem lw_p20 : lw_okq (⟨"LinkNamesModel", "shortens", "(I)V"⟩, 16) := ⟨⟨by decide +kernel, by decide +kernel⟩, List.mem_of_getElem? (i := 727) (by decide +kernel), List.mem_of_getElem? (i := 873) (by decide +kernel), List.mem_of_getElem? (i := 874) (by decide +kernel)⟩
theorem lw_p21 : lw_okq (⟨"LinkNamesModel", "canLeave", "(II)I"⟩, 16) := ⟨⟨by decide +kernel, by decide +kernel⟩, List.mem_of_getElem? (i := 727) (by decide +kernel), List.mem_of_getElem? (i := 885) (by decide +kernel), List.mem_of_getElem? (i := 886) (by decide +kernel)⟩
theorem lw_p22 : lw_okq (⟨"LinkNamesModel", "isRecord", "(II)Z"⟩, 16) := ⟨⟨by decide +kernel, by decide +kernel⟩, List.mem_of_getElem? (i := 727) (by decide +kernel), List.mem_of_getElem? (i := 889) (by decide +kernel), List.mem_of_getElem? (i := 890) (by decide +kernel)⟩
theorem lw_p23 : lw_okq (⟨"LinkNamesModel", "leaveNow", "(II)I"⟩, 16) := ⟨⟨by decide +kernel, by decide +kernel⟩, List.mem_of_getElem? (i := 727) (by decide +kernel), List.mem_of_getElem? (i := 893) (by decide +kernel), List.mem_of_getElem? (i := 894) (by decide +kernel)⟩
theorem lw_p24 : lw_okq (⟨"LinkNamesModel", "recordThen", "(III)I"⟩, 16) := ⟨⟨by decide +kernel, by decide +kernel⟩, List.mem_of_getElem? (i := 727) (by decide +kernel), List.mem_of_getElem? (i := 902) (by decide +kernel), List.mem_of_getElem? (i := 903) (by decide +kernel)⟩
theorem lw_p25 : lw_okq (⟨"LinkNamesModel", "isDefended", "(II)Z"⟩, 16) := ⟨⟨by decide +kernel, by decide +kernel⟩, List.mem_of_getElem? (i := 727) (by decide +kernel), List.mem_of_getElem? (i := 906) (by decide +kernel), List.mem_of_getElem? (i := 907) (by decide +kernel)⟩
theorem lw_p26 : lw_okq (⟨"LinkNamesModel", "proxy", "(I)I"⟩, 16) := ⟨⟨by decide +kernel, by decide +kernel⟩, List.mem_of_getElem? (i := 727) (by decide +kernel), List.mem_of_getElem? (i := 910) (by decide +kernel), List.mem_of_getElem? (i := 911) (by decide +kernel)⟩
theorem lw_p27 : lw_okq (⟨"LinkNamesModel", "ofNow", "(II)I"⟩, 16) := ⟨⟨by decide +kernel, by decide +kernel⟩, List.mem_of_getElem? (i := 727) (by decide +kernel), List.mem_of_getElem? (i := 919) (by decide +kernel), List.mem_of_getElem? (i := 920) (by decide +kernel)⟩
theorem lw_p28 : lw_okq (⟨"LinkNamesModel", "owned", "(I)I"⟩, 16) := ⟨⟨by decide +kernel, by decide +kernel⟩, List.mem_of_getElem? (i := 727) (by decide +kernel), List.mem_of_getElem? (i := 923) (by decide +kernel), List.mem_of_getElem? (i := 924) (by decide +kernel)⟩
theorem lw_p29 : lw_okq (⟨"LinkNamesModel", "stoodFor", "(I)I"⟩, 16) := ⟨⟨by decide +kernel, by decide +kernel⟩, List.mem_of_getElem? (i := 727) (by decide +kernel), List.mem_of_getElem? (i := 927) (by decide +kernel), List.mem_of_getElem? (i := 928) (by decide +kernel)⟩
theorem lw_p30 : lw_okq (⟨"LinkNamesModel", "tickNow", "(I)I"⟩, 16) := ⟨⟨by decide +kernel, by decide +kernel⟩, List.mem_of_getElem? (i := 727) (by decide +kernel), List.mem_of_getElem? (i := 935) (by decide +kernel), List.mem_of_getElem? (i := 936) (by decide +kernel)⟩
theorem lw_p31 : lw_okq (⟨"LinkNamesModel", "ticksOne", "()V"⟩, 16) := ⟨⟨by decide +kernel, by decide +kernel⟩, List.mem_of_getElem? (i := 727) (by decide +kernel), List.mem_of_getElem? (i := 939) (by decide +kernel), List.mem_of_getElem? (i := 940) (by decide +kernel)⟩
def lw_privs_2 : List (MethodName × Nat) := [(⟨"LinkNamesModel", "areSame", "(II)Z"⟩, 16), (⟨"LinkNamesModel", "areOne", "(II)Z"⟩, 16), (⟨"LinkNamesModel", "entries", "(I)I"⟩, 16), (⟨"LinkNamesModel", "dropsEntry", "(II)V"⟩, 16), (⟨"LinkNamesModel", "shortens", "(I)V"⟩, 16), (⟨"LinkNamesModel", "canLeave", "(II)I"⟩, 16), (⟨"LinkNamesModel", "isRecord", "(II)Z"⟩, 16), (⟨"LinkNamesModel", "leaveNow", "(II)I"⟩, 16), (⟨"LinkNamesModel", "recordThen", "(III)I"⟩, 16), (⟨"LinkNamesModel", "isDefended", "(II)Z"⟩, 16), (⟨"LinkNamesModel", "proxy", "(I)I"⟩, 16), (⟨"LinkNamesModel", "ofNow", "(II)I"⟩, 16), (⟨"LinkNamesModel", "owned", "(I)I"⟩, 16), (⟨"LinkNamesModel", "stoodFor", "(I)I"⟩, 16), (⟨"LinkNamesModel", "tickNow", "(I)I"⟩, 16), (⟨"LinkNamesModel", "ticksOne", "()V"⟩, 16)]
theorem lw_r2 : ∀ q ∈ lw_privs_2, lw_okq q := List.forall_mem_cons.mpr ⟨lw_p16, List.forall_mem_cons.mpr ⟨lw_p17, List.forall_mem_cons.mpr ⟨lw_p18, List.forall_mem_cons.mpr ⟨lw_p19, List.forall_mem_cons.mpr ⟨lw_p20, List.forall_mem_cons.mpr ⟨lw_p21, List.forall_mem_cons.mpr ⟨lw_p22, List.forall_mem_cons.mpr ⟨lw_p23, List.forall_mem_cons.mpr ⟨lw_p24, List.forall_mem_cons.mpr ⟨lw_p25, List.forall_mem_cons.mpr ⟨lw_p26, List.forall_mem_cons.mpr ⟨lw_p27, List.forall_mem_cons.mpr ⟨lw_p28, List.forall_mem_cons.mpr ⟨lw_p29, List.forall_mem_cons.mpr ⟨lw_p30, List.forall_mem_cons.mpr ⟨lw_p31, fun _ h => absurd h List.not_mem_nil⟩⟩⟩⟩⟩⟩⟩⟩⟩⟩⟩⟩⟩⟩⟩⟩
theorem lw_p32 : lw_okq (⟨"LinkNamesModel", "ages", "()V"⟩, 16) := ⟨⟨by decide +kernel, by decide +kernel⟩, List.mem_of_getElem? (i := 727) (by decide +kernel), List.mem_of_getElem? (i := 943) (by decide +kernel), List.mem_of_getElem? (i := 944) (by decide +kernel)⟩
theorem lw_p33 : lw_okq (⟨"LinkNamesModel", "probes", "(II)V"⟩, 16) := ⟨⟨by decide +kernel, by decide +kernel⟩, List.mem_of_getElem? (i := 727) (by decide +kernel), List.mem_of_getElem? (i := 947) (by decide +kernel), List.mem_of_getElem? (i := 948) (by decide +kernel)⟩
theorem lw_p34 : lw_okq (⟨"LinkNamesModel", "isOpposed", "(II)Z"⟩, 16) := ⟨⟨by decide +kernel, by decide +kernel⟩, List.mem_of_getElem? (i := 727) (by decide +kernel), List.mem_of_getElem? (i := 951) (by decide +kernel), List.mem_of_getElem? (i := 952) (by decide +kernel)⟩
theorem lw_p35 : lw_okq (⟨"LinkNamesModel", "isOutbid", "(II)Z"⟩, 16) := ⟨⟨by decide +kernel, by decide +kernel⟩, List.mem_of_getElem? (i := 727) (by decide +kernel), List.mem_of_getElem? (i := 955) (by decide +kernel), List.mem_of_getElem? (i := 956) (by decide +kernel)⟩
theorem lw_p36 : lw_okq (⟨"LinkNamesModel", "rateBits", "()I"⟩, 16) := ⟨⟨by decide +kernel, by decide +kernel⟩, List.mem_of_getElem? (i := 727) (by decide +kernel), List.mem_of_getElem? (i := 965) (by decide +kernel), List.mem_of_getElem? (i := 966) (by decide +kernel)⟩
theorem lw_p37 : lw_okq (⟨"LinkNamesModel", "canAsk", "(III)I"⟩, 16) := ⟨⟨by decide +kernel, by decide +kernel⟩, List.mem_of_getElem? (i := 727) (by decide +kernel), List.mem_of_getElem? (i := 983) (by decide +kernel), List.mem_of_getElem? (i := 984) (by decide +kernel)⟩
theorem lw_p38 : lw_okq (⟨"LinkNamesModel", "askNow", "(III)I"⟩, 16) := ⟨⟨by decide +kernel, by decide +kernel⟩, List.mem_of_getElem? (i := 727) (by decide +kernel), List.mem_of_getElem? (i := 987) (by decide +kernel), List.mem_of_getElem? (i := 988) (by decide +kernel)⟩
theorem lw_p39 : lw_okq (⟨"LinkNamesModel", "entryNow", "(III)I"⟩, 16) := ⟨⟨by decide +kernel, by decide +kernel⟩, List.mem_of_getElem? (i := 727) (by decide +kernel), List.mem_of_getElem? (i := 996) (by decide +kernel), List.mem_of_getElem? (i := 997) (by decide +kernel)⟩
theorem lw_p40 : lw_okq (⟨"LinkNamesModel", "findsNow", "(IIII)I"⟩, 16) := ⟨⟨by decide +kernel, by decide +kernel⟩, List.mem_of_getElem? (i := 727) (by decide +kernel), List.mem_of_getElem? (i := 1004) (by decide +kernel), List.mem_of_getElem? (i := 1005) (by decide +kernel)⟩
theorem lw_p41 : lw_okq (⟨"LinkNamesModel", "ownerNow", "(III)I"⟩, 16) := ⟨⟨by decide +kernel, by decide +kernel⟩, List.mem_of_getElem? (i := 727) (by decide +kernel), List.mem_of_getElem? (i := 1012) (by decide +kernel), List.mem_of_getElem? (i := 1013) (by decide +kernel)⟩
theorem lw_p42 : lw_okq (⟨"LinkNamesModel", "allNow", "(I)I"⟩, 16) := ⟨⟨by decide +kernel, by decide +kernel⟩, List.mem_of_getElem? (i := 727) (by decide +kernel), List.mem_of_getElem? (i := 1020) (by decide +kernel), List.mem_of_getElem? (i := 1021) (by decide +kernel)⟩
theorem lw_p43 : lw_okq (⟨"LinkNamesModel", "isOwned", "(I)Z"⟩, 16) := ⟨⟨by decide +kernel, by decide +kernel⟩, List.mem_of_getElem? (i := 727) (by decide +kernel), List.mem_of_getElem? (i := 1024) (by decide +kernel), List.mem_of_getElem? (i := 1025) (by decide +kernel)⟩
theorem lw_p44 : lw_okq (⟨"LinkNamesModel", "canSleep", "(II)I"⟩, 16) := ⟨⟨by decide +kernel, by decide +kernel⟩, List.mem_of_getElem? (i := 727) (by decide +kernel), List.mem_of_getElem? (i := 1032) (by decide +kernel), List.mem_of_getElem? (i := 1033) (by decide +kernel)⟩
theorem lw_p45 : lw_okq (⟨"LinkNamesModel", "sleepNow", "(II)I"⟩, 16) := ⟨⟨by decide +kernel, by decide +kernel⟩, List.mem_of_getElem? (i := 727) (by decide +kernel), List.mem_of_getElem? (i := 1036) (by decide +kernel), List.mem_of_getElem? (i := 1037) (by decide +kernel)⟩
theorem lw_p46 : lw_okq (⟨"LinkNamesModel", "canWake", "(I)I"⟩, 16) := ⟨⟨by decide +kernel, by decide +kernel⟩, List.mem_of_getElem? (i := 727) (by decide +kernel), List.mem_of_getElem? (i := 1044) (by decide +kernel), List.mem_of_getElem? (i := 1045) (by decide +kernel)⟩
theorem lw_p47 : lw_okq (⟨"LinkNamesModel", "wakeNow", "(I)I"⟩, 16) := ⟨⟨by decide +kernel, by decide +kernel⟩, List.mem_of_getElem? (i := 727) (by decide +kernel), List.mem_of_getElem? (i := 1048) (by decide +kernel), List.mem_of_getElem? (i := 1049) (by decide +kernel)⟩
def lw_privs_3 : List (MethodName × Nat) := [(⟨"LinkNamesModel", "ages", "()V"⟩, 16), (⟨"LinkNamesModel", "probes", "(II)V"⟩, 16), (⟨"LinkNamesModel", "isOpposed", "(II)Z"⟩, 16), (⟨"LinkNamesModel", "isOutbid", "(II)Z"⟩, 16), (⟨"LinkNamesModel", "rateBits", "()I"⟩, 16), (⟨"LinkNamesModel", "canAsk", "(III)I"⟩, 16), (⟨"LinkNamesModel", "askNow", "(III)I"⟩, 16), (⟨"LinkNamesModel", "entryNow", "(III)I"⟩, 16), (⟨"LinkNamesModel", "findsNow", "(IIII)I"⟩, 16), (⟨"LinkNamesModel", "ownerNow", "(III)I"⟩, 16), (⟨"LinkNamesModel", "allNow", "(I)I"⟩, 16), (⟨"LinkNamesModel", "isOwned", "(I)Z"⟩, 16), (⟨"LinkNamesModel", "canSleep", "(II)I"⟩, 16), (⟨"LinkNamesModel", "sleepNow", "(II)I"⟩, 16), (⟨"LinkNamesModel", "canWake", "(I)I"⟩, 16), (⟨"LinkNamesModel", "wakeNow", "(I)I"⟩, 16)]
theorem lw_r3 : ∀ q ∈ lw_privs_3, lw_okq q := List.forall_mem_cons.mpr ⟨lw_p32, List.forall_mem_cons.mpr ⟨lw_p33, List.forall_mem_cons.mpr ⟨lw_p34, List.forall_mem_cons.mpr ⟨lw_p35, List.forall_mem_cons.mpr ⟨lw_p36, List.forall_mem_cons.mpr ⟨lw_p37, List.forall_mem_cons.mpr ⟨lw_p38, List.forall_mem_cons.mpr ⟨lw_p39, List.forall_mem_cons.mpr ⟨lw_p40, List.forall_mem_cons.mpr ⟨lw_p41, List.forall_mem_cons.mpr ⟨lw_p42, List.forall_mem_cons.mpr ⟨lw_p43, List.forall_mem_cons.mpr ⟨lw_p44, List.forall_mem_cons.mpr ⟨lw_p45, List.forall_mem_cons.mpr ⟨lw_p46, List.forall_mem_cons.mpr ⟨lw_p47, fun _ h => absurd h List.not_mem_nil⟩⟩⟩⟩⟩⟩⟩⟩⟩⟩⟩⟩⟩⟩⟩⟩
theorem lw_p48 : lw_okq (⟨"LinkNamesModel", "readsOrder", "(Z)Z"⟩, 16) := ⟨⟨by decide +kernel, by decide +kernel⟩, List.mem_of_getElem? (i := 727) (by decide +kernel), List.mem_of_getElem? (i := 1065) (by decide +kernel), List.mem_of_getElem? (i := 1066) (by decide +kernel)⟩
theorem lw_p49 : lw_okq (⟨"LinkNamesModel", "here", "()I"⟩, 16) := ⟨⟨by decide +kernel, by decide +kernel⟩, List.mem_of_getElem? (i := 727) (by decide +kernel), List.mem_of_getElem? (i := 1069) (by decide +kernel), List.mem_of_getElem? (i := 1070) (by decide +kernel)⟩
theorem lw_p50 : lw_okq (⟨"LinkNamesModel", "takes", "(I)Z"⟩, 16) := ⟨⟨by decide +kernel, by decide +kernel⟩, List.mem_of_getElem? (i := 727) (by decide +kernel), List.mem_of_getElem? (i := 1076) (by decide +kernel), List.mem_of_getElem? (i := 1077) (by decide +kernel)⟩
theorem lw_p51 : lw_okq (⟨"LinkNamesModel", "isFigure", "(I)Z"⟩, 16) := ⟨⟨by decide +kernel, by decide +kernel⟩, List.mem_of_getElem? (i := 727) (by decide +kernel), List.mem_of_getElem? (i := 1080) (by decide +kernel), List.mem_of_getElem? (i := 1081) (by decide +kernel)⟩
theorem lw_p52 : lw_okq (⟨"LinkNamesModel", "can", "(I)I"⟩, 16) := ⟨⟨by decide +kernel, by decide +kernel⟩, List.mem_of_getElem? (i := 727) (by decide +kernel), List.mem_of_getElem? (i := 1086) (by decide +kernel), List.mem_of_getElem? (i := 1087) (by decide +kernel)⟩
theorem lw_p53 : lw_okq (⟨"LinkNamesModel", "does", "(I)I"⟩, 16) := ⟨⟨by decide +kernel, by decide +kernel⟩, List.mem_of_getElem? (i := 727) (by decide +kernel), List.mem_of_getElem? (i := 1090) (by decide +kernel), List.mem_of_getElem? (i := 1091) (by decide +kernel)⟩
theorem lw_p54 : lw_okq (⟨"LinkNamesModel", "setsAside", "()V"⟩, 16) := ⟨⟨by decide +kernel, by decide +kernel⟩, List.mem_of_getElem? (i := 727) (by decide +kernel), List.mem_of_getElem? (i := 1094) (by decide +kernel), List.mem_of_getElem? (i := 1095) (by decide +kernel)⟩
theorem lw_p55 : lw_okq (⟨"LinkNamesModel", "takesAside", "()V"⟩, 16) := ⟨⟨by decide +kernel, by decide +kernel⟩, List.mem_of_getElem? (i := 727) (by decide +kernel), List.mem_of_getElem? (i := 1098) (by decide +kernel), List.mem_of_getElem? (i := 1099) (by decide +kernel)⟩
theorem lw_p56 : lw_okq (⟨"LinkNamesModel", "keepsAside", "()V"⟩, 16) := ⟨⟨by decide +kernel, by decide +kernel⟩, List.mem_of_getElem? (i := 727) (by decide +kernel), List.mem_of_getElem? (i := 1102) (by decide +kernel), List.mem_of_getElem? (i := 1103) (by decide +kernel)⟩
theorem lw_p57 : lw_okq (⟨"LinkNamesModel", "toldOf", "(I)I"⟩, 16) := ⟨⟨by decide +kernel, by decide +kernel⟩, List.mem_of_getElem? (i := 727) (by decide +kernel), List.mem_of_getElem? (i := 1119) (by decide +kernel), List.mem_of_getElem? (i := 1120) (by decide +kernel)⟩
def lw_privs_4 : List (MethodName × Nat) := [(⟨"LinkNamesModel", "readsOrder", "(Z)Z"⟩, 16), (⟨"LinkNamesModel", "here", "()I"⟩, 16), (⟨"LinkNamesModel", "takes", "(I)Z"⟩, 16), (⟨"LinkNamesModel", "isFigure", "(I)Z"⟩, 16), (⟨"LinkNamesModel", "can", "(I)I"⟩, 16), (⟨"LinkNamesModel", "does", "(I)I"⟩, 16), (⟨"LinkNamesModel", "setsAside", "()V"⟩, 16), (⟨"LinkNamesModel", "takesAside", "()V"⟩, 16), (⟨"LinkNamesModel", "keepsAside", "()V"⟩, 16), (⟨"LinkNamesModel", "toldOf", "(I)I"⟩, 16)]
theorem lw_r4 : ∀ q ∈ lw_privs_4, lw_okq q := List.forall_mem_cons.mpr ⟨lw_p48, List.forall_mem_cons.mpr ⟨lw_p49, List.forall_mem_cons.mpr ⟨lw_p50, List.forall_mem_cons.mpr ⟨lw_p51, List.forall_mem_cons.mpr ⟨lw_p52, List.forall_mem_cons.mpr ⟨lw_p53, List.forall_mem_cons.mpr ⟨lw_p54, List.forall_mem_cons.mpr ⟨lw_p55, List.forall_mem_cons.mpr ⟨lw_p56, List.forall_mem_cons.mpr ⟨lw_p57, fun _ h => absurd h List.not_mem_nil⟩⟩⟩⟩⟩⟩⟩⟩⟩⟩
def lw_privs : List (MethodName × Nat) := lw_privs_1 ++ (lw_privs_2 ++ (lw_privs_3 ++ (lw_privs_4)))
def lw_tbl : List Cond := k2_sels lw_privs ++ tables_1
theorem lw_privs_ok : ∀ q ∈ lw_privs, lw_okq q := by
  show ∀ q ∈ lw_privs_1 ++ (lw_privs_2 ++ (lw_privs_3 ++ (lw_privs_4))), lw_okq q
  exact List.forall_mem_append.mpr ⟨lw_r1, List.forall_mem_append.mpr ⟨lw_r2, List.forall_mem_append.mpr ⟨lw_r3, lw_r4⟩⟩⟩
/-- the streams that the claim lets the run draw from -/
abbrev lw_cs : List Choice := [Jvm.Choice.named "NaN.bits"]
theorem lw_bits : nanBits ∈ lw_cs := by first | decide | exact List.mem_cons_self | simp [lw_cs, nanBits]
end
section
def RX0 : String := "LinkNames$Cache"
def TX0 : u_T := fun k => match k with
  | 0 => ("LinkNames$Cache", "entries", "[LLinkNames$Entry;", true)
  | _ => ("LinkNames$Cache", "size", "I", false)
def tyX0 : Nat → FieldType := fun k => match k with
  | 0 => .array (.object "LinkNames$Entry")
  | _ => .int
abbrev wsX00 : List Cond := u_ws RX0 TX0 2
theorem nmX0 : ∀ a, a < 2 → ∀ b, b < 2 → a ≠ b → (TX0 a).2.1 ≠ (TX0 b).2.1 := by decide +kernel
theorem tyX0_ok : ∀ k, k < 2 → parseFieldDescriptor (TX0 k).2.2.1 = some (tyX0 k) := by decide +kernel
abbrev cX0_init : ByteArray := prog_2_method_1_code
def yX0_init : MethodName := ⟨RX0, "<init>", "()V"⟩
abbrev cX0_become : ByteArray := prog_2_method_2_code
def yX0_become : MethodName := ⟨RX0, "become", "(LLinkNames$Cache;)V"⟩
abbrev cX0_indexOf : ByteArray := prog_2_method_3_code
def yX0_indexOf : MethodName := ⟨RX0, "indexOf", "(III)I"⟩
abbrev cX0_removeAt : ByteArray := prog_2_method_4_code
def yX0_removeAt : MethodName := ⟨RX0, "removeAt", "(I)V"⟩
abbrev cX0_removeEnded : ByteArray := prog_2_method_5_code
def yX0_removeEnded : MethodName := ⟨RX0, "removeEnded", "(I)V"⟩
abbrev cX0_learn : ByteArray := prog_2_method_6_code
def yX0_learn : MethodName := ⟨RX0, "learn", "(LLinkNames$NameRecord;I)V"⟩
abbrev cX0_endRivals : ByteArray := prog_2_method_7_code
def yX0_endRivals : MethodName := ⟨RX0, "endRivals", "(LLinkNames$NameRecord;I)V"⟩
abbrev cX0_endOf : ByteArray := prog_2_method_8_code
def yX0_endOf : MethodName := ⟨RX0, "endOf", "(LLinkNames$NameRecord;I)V"⟩
abbrev cX0_noteKnown : ByteArray := prog_2_method_9_code
def yX0_noteKnown : MethodName := ⟨RX0, "noteKnown", "(IIILLinkNames$DataSet;)V"⟩
abbrev cX0_newestData : ByteArray := prog_2_method_10_code
def yX0_newestData : MethodName := ⟨RX0, "newestData", "(II)I"⟩
abbrev cX0_countOf : ByteArray := prog_2_method_11_code
def yX0_countOf : MethodName := ⟨RX0, "countOf", "(II)I"⟩
abbrev cX0_longestLeft : ByteArray := prog_2_method_12_code
def yX0_longestLeft : MethodName := ⟨RX0, "longestLeft", "(III)I"⟩
def RX1 : String := "LinkNames$DataSet"
def TX1 : u_T := fun k => match k with
  | _ => ("LinkNames$DataSet", "words", "[J", true)
def tyX1 : Nat → FieldType := fun k => match k with
  | _ => .array .long
abbrev wsX10 : List Cond := u_ws RX1 TX1 1
theorem nmX1 : ∀ a, a < 1 → ∀ b, b < 1 → a ≠ b → (TX1 a).2.1 ≠ (TX1 b).2.1 := by decide +kernel
theorem tyX1_ok : ∀ k, k < 1 → parseFieldDescriptor (TX1 k).2.2.1 = some (tyX1 k) := by decide +kernel
abbrev cX1_init : ByteArray := prog_3_method_1_code
def yX1_init : MethodName := ⟨RX1, "<init>", "()V"⟩
abbrev cX1_empty : ByteArray := prog_3_method_2_code
def yX1_empty : MethodName := ⟨RX1, "empty", "()V"⟩
abbrev cX1_add : ByteArray := prog_3_method_3_code
def yX1_add : MethodName := ⟨RX1, "add", "(I)V"⟩
abbrev cX1_has : ByteArray := prog_3_method_4_code
def yX1_has : MethodName := ⟨RX1, "has", "(I)Z"⟩
def RX2 : String := "LinkNames$Entry"
def TX2 : u_T := fun k => match k with
  | 0 => ("LinkNames$Entry", "name", "I", false)
  | 1 => ("LinkNames$Entry", "kind", "I", false)
  | 2 => ("LinkNames$Entry", "data", "I", false)
  | 3 => ("LinkNames$Entry", "life", "I", false)
  | _ => ("LinkNames$Entry", "end", "I", false)
def tyX2 : Nat → FieldType := fun k => match k with
  | 0 => .int
  | 1 => .int
  | 2 => .int
  | 3 => .int
  | _ => .int
abbrev wsX20 : List Cond := u_ws RX2 TX2 5
theorem nmX2 : ∀ a, a < 5 → ∀ b, b < 5 → a ≠ b → (TX2 a).2.1 ≠ (TX2 b).2.1 := by decide +kernel
theorem tyX2_ok : ∀ k, k < 5 → parseFieldDescriptor (TX2 k).2.2.1 = some (tyX2 k) := by decide +kernel
abbrev cX2_init : ByteArray := prog_4_method_1_code
def yX2_init : MethodName := ⟨RX2, "<init>", "()V"⟩
abbrev cX2_become : ByteArray := prog_4_method_2_code
def yX2_become : MethodName := ⟨RX2, "become", "(LLinkNames$Entry;)V"⟩
abbrev cX2_isNamed : ByteArray := prog_4_method_3_code
def yX2_isNamed : MethodName := ⟨RX2, "isNamed", "(II)Z"⟩
def RX3 : String := "LinkNames$History"
def TX3 : u_T := fun k => match k with
  | 0 => ("LinkNames$History", "states", "[LLinkNames$Link;", true)
  | 1 => ("LinkNames$History", "oldest", "I", false)
  | _ => ("LinkNames$History", "kept", "I", false)
def tyX3 : Nat → FieldType := fun k => match k with
  | 0 => .array (.object "LinkNames$Link")
  | 1 => .int
  | _ => .int
abbrev wsX30 : List Cond := u_ws RX3 TX3 3
theorem nmX3 : ∀ a, a < 3 → ∀ b, b < 3 → a ≠ b → (TX3 a).2.1 ≠ (TX3 b).2.1 := by decide +kernel
theorem tyX3_ok : ∀ k, k < 3 → parseFieldDescriptor (TX3 k).2.2.1 = some (tyX3 k) := by decide +kernel
abbrev cX3_init : ByteArray := prog_5_method_1_code
def yX3_init : MethodName := ⟨RX3, "<init>", "()V"⟩
abbrev cX3_behindNewest : ByteArray := prog_5_method_2_code
def yX3_behindNewest : MethodName := ⟨RX3, "behindNewest", "()LLinkNames$Link;"⟩
abbrev cX3_draft : ByteArray := prog_5_method_3_code
def yX3_draft : MethodName := ⟨RX3, "draft", "(LLinkNames$Link;)V"⟩
abbrev cX3_restoreDraft : ByteArray := prog_5_method_4_code
def yX3_restoreDraft : MethodName := ⟨RX3, "restoreDraft", "(LLinkNames$Link;)V"⟩
abbrev cX3_keepDraft : ByteArray := prog_5_method_5_code
def yX3_keepDraft : MethodName := ⟨RX3, "keepDraft", "()V"⟩
abbrev cX3_goBack : ByteArray := prog_5_method_6_code
def yX3_goBack : MethodName := ⟨RX3, "goBack", "(LLinkNames$Link;)I"⟩
def RX4 : String := "LinkNames$Host"
def TX4 : u_T := fun k => match k with
  | 0 => ("LinkNames$Host", "records", "[LLinkNames$NameRecord;", true)
  | 1 => ("LinkNames$Host", "cache", "LLinkNames$Cache;", true)
  | 2 => ("LinkNames$Host", "count", "I", false)
  | 3 => ("LinkNames$Host", "awake", "Z", false)
  | _ => ("LinkNames$Host", "proxy", "I", false)
def tyX4 : Nat → FieldType := fun k => match k with
  | 0 => .array (.object "LinkNames$NameRecord")
  | 1 => .object "LinkNames$Cache"
  | 2 => .int
  | 3 => .boolean
  | _ => .int
abbrev wsX40 : List Cond := u_ws RX4 TX4 5
theorem nmX4 : ∀ a, a < 5 → ∀ b, b < 5 → a ≠ b → (TX4 a).2.1 ≠ (TX4 b).2.1 := by decide +kernel
theorem tyX4_ok : ∀ k, k < 5 → parseFieldDescriptor (TX4 k).2.2.1 = some (tyX4 k) := by decide +kernel
abbrev cX4_init : ByteArray := prog_6_method_1_code
def yX4_init : MethodName := ⟨RX4, "<init>", "()V"⟩
abbrev cX4_begin : ByteArray := prog_6_method_2_code
def yX4_begin : MethodName := ⟨RX4, "begin", "()V"⟩
abbrev cX4_become : ByteArray := prog_6_method_3_code
def yX4_become : MethodName := ⟨RX4, "become", "(LLinkNames$Host;)V"⟩
abbrev cX4_add : ByteArray := prog_6_method_4_code
def yX4_add : MethodName := ⟨RX4, "add", "(IIII)LLinkNames$NameRecord;"⟩
abbrev cX4_takeOut : ByteArray := prog_6_method_5_code
def yX4_takeOut : MethodName := ⟨RX4, "takeOut", "(I)LLinkNames$NameRecord;"⟩
abbrev cX4_hasNamed : ByteArray := prog_6_method_6_code
def yX4_hasNamed : MethodName := ⟨RX4, "hasNamed", "(II)Z"⟩
abbrev cX4_has : ByteArray := prog_6_method_7_code
def yX4_has : MethodName := ⟨RX4, "has", "(III)Z"⟩
abbrev cX4_owns : ByteArray := prog_6_method_8_code
def yX4_owns : MethodName := ⟨RX4, "owns", "(III)Z"⟩
abbrev cX4_ownedCount : ByteArray := prog_6_method_9_code
def yX4_ownedCount : MethodName := ⟨RX4, "ownedCount", "()I"⟩
abbrev cX4_firstSole : ByteArray := prog_6_method_10_code
def yX4_firstSole : MethodName := ⟨RX4, "firstSole", "(II)I"⟩
abbrev cX4_ownsRivalOf : ByteArray := prog_6_method_11_code
def yX4_ownsRivalOf : MethodName := ⟨RX4, "ownsRivalOf", "(LLinkNames$NameRecord;)Z"⟩
abbrev cX4_outbids : ByteArray := prog_6_method_12_code
def yX4_outbids : MethodName := ⟨RX4, "outbids", "(LLinkNames$NameRecord;)Z"⟩
def RX5 : String := "LinkNames$Link"
def TX5 : u_T := fun k => match k with
  | 0 => ("LinkNames$Link", "hosts", "[LLinkNames$Host;", true)
  | 1 => ("LinkNames$Link", "quiet", "LLinkNames$DataSet;", true)
  | 2 => ("LinkNames$Link", "hostCount", "I", false)
  | 3 => ("LinkNames$Link", "time", "I", false)
  | 4 => ("LinkNames$Link", "messages", "I", false)
  | 5 => ("LinkNames$Link", "messagesAtTick", "I", false)
  | 6 => ("LinkNames$Link", "probes", "I", false)
  | 7 => ("LinkNames$Link", "moves", "I", false)
  | 8 => ("LinkNames$Link", "suppressed", "I", false)
  | _ => ("LinkNames$Link", "rate", "F", false)
def tyX5 : Nat → FieldType := fun k => match k with
  | 0 => .array (.object "LinkNames$Host")
  | 1 => .object "LinkNames$DataSet"
  | 2 => .int
  | 3 => .int
  | 4 => .int
  | 5 => .int
  | 6 => .int
  | 7 => .int
  | 8 => .int
  | _ => .float
abbrev wsX50 : List Cond := u_ws RX5 TX5 10
theorem nmX5 : ∀ a, a < 10 → ∀ b, b < 10 → a ≠ b → (TX5 a).2.1 ≠ (TX5 b).2.1 := by decide +kernel
theorem tyX5_ok : ∀ k, k < 10 → parseFieldDescriptor (TX5 k).2.2.1 = some (tyX5 k) := by decide +kernel
abbrev cX5_init : ByteArray := prog_7_method_1_code
def yX5_init : MethodName := ⟨RX5, "<init>", "()V"⟩
abbrev cX5_become : ByteArray := prog_7_method_2_code
def yX5_become : MethodName := ⟨RX5, "become", "(LLinkNames$Link;)V"⟩
abbrev cX5_isHost : ByteArray := prog_7_method_3_code
def yX5_isHost : MethodName := ⟨RX5, "isHost", "(I)Z"⟩
abbrev cX5_isRecord : ByteArray := prog_7_method_4_code
def yX5_isRecord : MethodName := ⟨RX5, "isRecord", "(II)Z"⟩
abbrev cX5_isName : ByteArray := prog_7_method_5_code
def yX5_isName : MethodName := ⟨RX5, "isName", "(II)Z"⟩
abbrev cX5_addHost : ByteArray := prog_7_method_6_code
def yX5_addHost : MethodName := ⟨RX5, "addHost", "()I"⟩
abbrev cX5_claim : ByteArray := prog_7_method_7_code
def yX5_claim : MethodName := ⟨RX5, "claim", "(IIIII)I"⟩
abbrev cX5_share : ByteArray := prog_7_method_8_code
def yX5_share : MethodName := ⟨RX5, "share", "(IIIII)I"⟩
abbrev cX5_errorOfAdding : ByteArray := prog_7_method_9_code
def yX5_errorOfAdding : MethodName := ⟨RX5, "errorOfAdding", "(IIIII)I"⟩
abbrev cX5_sayGoodbye : ByteArray := prog_7_method_10_code
def yX5_sayGoodbye : MethodName := ⟨RX5, "sayGoodbye", "(II)I"⟩
abbrev cX5_announce : ByteArray := prog_7_method_11_code
def yX5_announce : MethodName := ⟨RX5, "announce", "(ILLinkNames$NameRecord;)V"⟩
abbrev cX5_speakerFor : ByteArray := prog_7_method_12_code
def yX5_speakerFor : MethodName := ⟨RX5, "speakerFor", "(I)I"⟩
abbrev cX5_isDefended : ByteArray := prog_7_method_13_code
def yX5_isDefended : MethodName := ⟨RX5, "isDefended", "(ILLinkNames$NameRecord;)Z"⟩
abbrev cX5_passTicks : ByteArray := prog_7_method_14_code
def yX5_passTicks : MethodName := ⟨RX5, "passTicks", "(I)I"⟩
abbrev cX5_beginTick : ByteArray := prog_7_method_15_code
def yX5_beginTick : MethodName := ⟨RX5, "beginTick", "()V"⟩
abbrev cX5_measureRate : ByteArray := prog_7_method_16_code
def yX5_measureRate : MethodName := ⟨RX5, "measureRate", "()V"⟩
abbrev cX5_advance : ByteArray := prog_7_method_17_code
def yX5_advance : MethodName := ⟨RX5, "advance", "(ILLinkNames$NameRecord;)V"⟩
abbrev cX5_isTaken : ByteArray := prog_7_method_18_code
def yX5_isTaken : MethodName := ⟨RX5, "isTaken", "(ILLinkNames$NameRecord;)Z"⟩
abbrev cX5_isOutbid : ByteArray := prog_7_method_19_code
def yX5_isOutbid : MethodName := ⟨RX5, "isOutbid", "(ILLinkNames$NameRecord;)Z"⟩
abbrev cX5_ask : ByteArray := prog_7_method_20_code
def yX5_ask : MethodName := ⟨RX5, "ask", "(III)I"⟩
abbrev cX5_answerFor : ByteArray := prog_7_method_21_code
def yX5_answerFor : MethodName := ⟨RX5, "answerFor", "(III)I"⟩
abbrev cX5_fallAsleep : ByteArray := prog_7_method_22_code
def yX5_fallAsleep : MethodName := ⟨RX5, "fallAsleep", "(II)I"⟩
abbrev cX5_wakeUp : ByteArray := prog_7_method_23_code
def yX5_wakeUp : MethodName := ⟨RX5, "wakeUp", "(I)I"⟩
abbrev cX5_recordProperty : ByteArray := prog_7_method_24_code
def yX5_recordProperty : MethodName := ⟨RX5, "recordProperty", "(III)I"⟩
abbrev cX5_hostProperty : ByteArray := prog_7_method_25_code
def yX5_hostProperty : MethodName := ⟨RX5, "hostProperty", "(II)I"⟩
abbrev cX5_hostsWithProxy : ByteArray := prog_7_method_26_code
def yX5_hostsWithProxy : MethodName := ⟨RX5, "hostsWithProxy", "(I)I"⟩
abbrev cX5_entryProperty : ByteArray := prog_7_method_27_code
def yX5_entryProperty : MethodName := ⟨RX5, "entryProperty", "(III)I"⟩
abbrev cX5_lookUp : ByteArray := prog_7_method_28_code
def yX5_lookUp : MethodName := ⟨RX5, "lookUp", "(IIII)I"⟩
abbrev cX5_defender : ByteArray := prog_7_method_29_code
def yX5_defender : MethodName := ⟨RX5, "defender", "(III)I"⟩
abbrev cX5_total : ByteArray := prog_7_method_30_code
def yX5_total : MethodName := ⟨RX5, "total", "(I)I"⟩
abbrev cX5_staleEntries : ByteArray := prog_7_method_31_code
def yX5_staleEntries : MethodName := ⟨RX5, "staleEntries", "(LLinkNames$Cache;)I"⟩
abbrev cX5_isOwnedByAny : ByteArray := prog_7_method_32_code
def yX5_isOwnedByAny : MethodName := ⟨RX5, "isOwnedByAny", "(LLinkNames$Entry;)Z"⟩
def RX6 : String := "LinkNames$NameRecord"
def TX6 : u_T := fun k => match k with
  | 0 => ("LinkNames$NameRecord", "name", "I", false)
  | 1 => ("LinkNames$NameRecord", "kind", "I", false)
  | 2 => ("LinkNames$NameRecord", "data", "I", false)
  | 3 => ("LinkNames$NameRecord", "life", "I", false)
  | 4 => ("LinkNames$NameRecord", "stage", "I", false)
  | 5 => ("LinkNames$NameRecord", "wait", "I", false)
  | _ => ("LinkNames$NameRecord", "sole", "Z", false)
def tyX6 : Nat → FieldType := fun k => match k with
  | 0 => .int
  | 1 => .int
  | 2 => .int
  | 3 => .int
  | 4 => .int
  | 5 => .int
  | _ => .boolean
abbrev wsX60 : List Cond := u_ws RX6 TX6 7
theorem nmX6 : ∀ a, a < 7 → ∀ b, b < 7 → a ≠ b → (TX6 a).2.1 ≠ (TX6 b).2.1 := by decide +kernel
theorem tyX6_ok : ∀ k, k < 7 → parseFieldDescriptor (TX6 k).2.2.1 = some (tyX6 k) := by decide +kernel
abbrev cX6_init : ByteArray := prog_8_method_1_code
def yX6_init : MethodName := ⟨RX6, "<init>", "()V"⟩
abbrev cX6_become : ByteArray := prog_8_method_2_code
def yX6_become : MethodName := ⟨RX6, "become", "(LLinkNames$NameRecord;)V"⟩
abbrev cX6_isNamed : ByteArray := prog_8_method_3_code
def yX6_isNamed : MethodName := ⟨RX6, "isNamed", "(II)Z"⟩
abbrev cX6_isOwned : ByteArray := prog_8_method_4_code
def yX6_isOwned : MethodName := ⟨RX6, "isOwned", "()Z"⟩
abbrev cX6_restart : ByteArray := prog_8_method_5_code
def yX6_restart : MethodName := ⟨RX6, "restart", "(I)V"⟩
def RX7 : String := "LinkNames$Text"
def TX7 : u_T := fun k => match k with
  | 0 => ("LinkNames$Text", "bytes", "[B", true)
  | 1 => ("LinkNames$Text", "length", "I", false)
  | 2 => ("LinkNames$Text", "letters", "[I", true)
  | 3 => ("LinkNames$Text", "numbers", "[I", true)
  | 4 => ("LinkNames$Text", "orders", "I", false)
  | 5 => ("LinkNames$Text", "inOrder", "Z", false)
  | 6 => ("LinkNames$Text", "begun", "I", false)
  | _ => ("LinkNames$Text", "digits", "I", false)
def tyX7 : Nat → FieldType := fun k => match k with
  | 0 => .array .byte
  | 1 => .int
  | 2 => .array .int
  | 3 => .array .int
  | 4 => .int
  | 5 => .boolean
  | 6 => .int
  | _ => .int
abbrev wsX70 : List Cond := u_ws RX7 TX7 8
theorem nmX7 : ∀ a, a < 8 → ∀ b, b < 8 → a ≠ b → (TX7 a).2.1 ≠ (TX7 b).2.1 := by decide +kernel
theorem tyX7_ok : ∀ k, k < 8 → parseFieldDescriptor (TX7 k).2.2.1 = some (tyX7 k) := by decide +kernel
abbrev cX7_init : ByteArray := prog_9_method_1_code
def yX7_init : MethodName := ⟨RX7, "<init>", "()V"⟩
abbrev cX7_append : ByteArray := prog_9_method_2_code
def yX7_append : MethodName := ⟨RX7, "append", "(I)I"⟩
abbrev cX7_letter : ByteArray := prog_9_method_3_code
def yX7_letter : MethodName := ⟨RX7, "letter", "(I)I"⟩
abbrev cX7_number : ByteArray := prog_9_method_4_code
def yX7_number : MethodName := ⟨RX7, "number", "(II)I"⟩
abbrev cX7_findFault : ByteArray := prog_9_method_5_code
def yX7_findFault : MethodName := ⟨RX7, "findFault", "()I"⟩
abbrev cX7_takes : ByteArray := prog_9_method_6_code
def yX7_takes : MethodName := ⟨RX7, "takes", "(I)Z"⟩
abbrev cX7_beginsOrder : ByteArray := prog_9_method_7_code
def yX7_beginsOrder : MethodName := ⟨RX7, "beginsOrder", "(I)Z"⟩
abbrev cX7_takesDigit : ByteArray := prog_9_method_8_code
def yX7_takesDigit : MethodName := ⟨RX7, "takesDigit", "(I)Z"⟩
abbrev cX7_leastNumbers : ByteArray := prog_9_method_9_code
def yX7_leastNumbers : MethodName := ⟨RX7, "leastNumbers", "(I)I"⟩
abbrev cX7_mostNumbers : ByteArray := prog_9_method_10_code
def yX7_mostNumbers : MethodName := ⟨RX7, "mostNumbers", "(I)I"⟩
def RX8 : String := "LinkNames"
def TX8 : u_T := fun k => match k with
  | 0 => ("LinkNames", "link", "LLinkNames$Link;", true)
  | 1 => ("LinkNames", "history", "LLinkNames$History;", true)
  | 2 => ("LinkNames", "text", "LLinkNames$Text;", true)
  | 3 => ("LinkNames", "bads", "I", false)
  | 4 => ("LinkNames", "noes", "I", false)
  | 5 => ("LinkNames", "fulls", "I", false)
  | 6 => ("LinkNames", "failedError", "I", false)
  | _ => ("LinkNames", "failedOrder", "I", false)
def tyX8 : Nat → FieldType := fun k => match k with
  | 0 => .object "LinkNames$Link"
  | 1 => .object "LinkNames$History"
  | 2 => .object "LinkNames$Text"
  | 3 => .int
  | 4 => .int
  | 5 => .int
  | 6 => .int
  | _ => .int
abbrev wsX80 : List Cond := u_ws RX8 TX8 8
theorem nmX8 : ∀ a, a < 8 → ∀ b, b < 8 → a ≠ b → (TX8 a).2.1 ≠ (TX8 b).2.1 := by decide +kernel
theorem tyX8_ok : ∀ k, k < 8 → parseFieldDescriptor (TX8 k).2.2.1 = some (tyX8 k) := by decide +kernel
abbrev cX8_init : ByteArray := prog_1_method_1_code
def yX8_init : MethodName := ⟨RX8, "<init>", "()V"⟩
abbrev cX8_host : ByteArray := prog_1_method_2_code
def yX8_host : MethodName := ⟨RX8, "host", "()I"⟩
abbrev cX8_claims : ByteArray := prog_1_method_3_code
def yX8_claims : MethodName := ⟨RX8, "claims", "(IIIII)I"⟩
abbrev cX8_shares : ByteArray := prog_1_method_4_code
def yX8_shares : MethodName := ⟨RX8, "shares", "(IIIII)I"⟩
abbrev cX8_leaves : ByteArray := prog_1_method_5_code
def yX8_leaves : MethodName := ⟨RX8, "leaves", "(II)I"⟩
abbrev cX8_record : ByteArray := prog_1_method_6_code
def yX8_record : MethodName := ⟨RX8, "record", "(III)I"⟩
abbrev cX8_of : ByteArray := prog_1_method_7_code
def yX8_of : MethodName := ⟨RX8, "of", "(II)I"⟩
abbrev cX8_ticks : ByteArray := prog_1_method_8_code
def yX8_ticks : MethodName := ⟨RX8, "ticks", "(I)I"⟩
abbrev cX8_rate : ByteArray := prog_1_method_9_code
def yX8_rate : MethodName := ⟨RX8, "rate", "()I"⟩
abbrev cX8_asks : ByteArray := prog_1_method_10_code
def yX8_asks : MethodName := ⟨RX8, "asks", "(III)I"⟩
abbrev cX8_entry : ByteArray := prog_1_method_11_code
def yX8_entry : MethodName := ⟨RX8, "entry", "(III)I"⟩
abbrev cX8_finds : ByteArray := prog_1_method_12_code
def yX8_finds : MethodName := ⟨RX8, "finds", "(IIII)I"⟩
abbrev cX8_owner : ByteArray := prog_1_method_13_code
def yX8_owner : MethodName := ⟨RX8, "owner", "(III)I"⟩
abbrev cX8_all : ByteArray := prog_1_method_14_code
def yX8_all : MethodName := ⟨RX8, "all", "(I)I"⟩
abbrev cX8_sleeps : ByteArray := prog_1_method_15_code
def yX8_sleeps : MethodName := ⟨RX8, "sleeps", "(II)I"⟩
abbrev cX8_wakes : ByteArray := prog_1_method_16_code
def yX8_wakes : MethodName := ⟨RX8, "wakes", "(I)I"⟩
abbrev cX8_type : ByteArray := prog_1_method_17_code
def yX8_type : MethodName := ⟨RX8, "type", "(I)I"⟩
abbrev cX8_clear : ByteArray := prog_1_method_18_code
def yX8_clear : MethodName := ⟨RX8, "clear", "()I"⟩
abbrev cX8_reads : ByteArray := prog_1_method_19_code
def yX8_reads : MethodName := ⟨RX8, "reads", "()I"⟩
abbrev cX8_why : ByteArray := prog_1_method_20_code
def yX8_why : MethodName := ⟨RX8, "why", "(I)I"⟩
abbrev cX8_back : ByteArray := prog_1_method_21_code
def yX8_back : MethodName := ⟨RX8, "back", "()I"⟩
abbrev cX8_told : ByteArray := prog_1_method_22_code
def yX8_told : MethodName := ⟨RX8, "told", "(I)I"⟩
abbrev cX8_digest : ByteArray := prog_1_method_23_code
def yX8_digest : MethodName := ⟨RX8, "digest", "()J"⟩
abbrev cX8_digestOfHost : ByteArray := prog_1_method_24_code
def yX8_digestOfHost : MethodName := ⟨RX8, "digestOfHost", "(JI)J"⟩
abbrev cX8_isError : ByteArray := prog_1_method_25_code
def yX8_isError : MethodName := ⟨RX8, "isError", "(I)Z"⟩
abbrev cX8_counted : ByteArray := prog_1_method_26_code
def yX8_counted : MethodName := ⟨RX8, "counted", "(I)I"⟩
abbrev cX8_stepped : ByteArray := prog_1_method_27_code
def yX8_stepped : MethodName := ⟨RX8, "stepped", "(I)I"⟩
abbrev cX8_perform : ByteArray := prog_1_method_28_code
def yX8_perform : MethodName := ⟨RX8, "perform", "(I)I"⟩
abbrev cX8_bitsOf : ByteArray := prog_1_method_29_code
def yX8_bitsOf : MethodName := ⟨RX8, "bitsOf", "(F)I"⟩
abbrev cX8_within : ByteArray := prog_1_method_30_code
def yX8_within : MethodName := ⟨RX8, "within", "(III)Z"⟩
abbrev cX8_oneIf : ByteArray := prog_1_method_31_code
def yX8_oneIf : MethodName := ⟨RX8, "oneIf", "(Z)I"⟩
def RX9 : String := "LinkNamesModel"
def TX9 : u_T := fun k => match k with
  | 0 => ("LinkNamesModel", "all", "[I", true)
  | 1 => ("LinkNamesModel", "rate", "F", false)
  | 2 => ("LinkNamesModel", "past", "[I", true)
  | 3 => ("LinkNamesModel", "pastRates", "[F", true)
  | 4 => ("LinkNamesModel", "aside", "[I", true)
  | 5 => ("LinkNamesModel", "asideRate", "F", false)
  | 6 => ("LinkNamesModel", "states", "I", false)
  | 7 => ("LinkNamesModel", "refused", "[I", true)
  | 8 => ("LinkNamesModel", "heard", "[Z", true)
  | 9 => ("LinkNamesModel", "text", "[I", true)
  | 10 => ("LinkNamesModel", "textLong", "I", false)
  | 11 => ("LinkNamesModel", "place", "I", false)
  | 12 => ("LinkNamesModel", "numbers", "[I", true)
  | 13 => ("LinkNamesModel", "not", "I", false)
  | 14 => ("LinkNamesModel", "whyAnswer", "I", false)
  | _ => ("LinkNamesModel", "whyOrder", "I", false)
def tyX9 : Nat → FieldType := fun k => match k with
  | 0 => .array .int
  | 1 => .float
  | 2 => .array .int
  | 3 => .array .float
  | 4 => .array .int
  | 5 => .float
  | 6 => .int
  | 7 => .array .int
  | 8 => .array .boolean
  | 9 => .array .int
  | 10 => .int
  | 11 => .int
  | 12 => .array .int
  | 13 => .int
  | 14 => .int
  | _ => .int
abbrev wsX90 : List Cond := u_ws RX9 TX9 16
theorem nmX9 : ∀ a, a < 16 → ∀ b, b < 16 → a ≠ b → (TX9 a).2.1 ≠ (TX9 b).2.1 := by decide +kernel
theorem tyX9_ok : ∀ k, k < 16 → parseFieldDescriptor (TX9 k).2.2.1 = some (tyX9 k) := by decide +kernel
abbrev cX9_init : ByteArray := prog_11_method_1_code
def yX9_init : MethodName := ⟨RX9, "<init>", "()V"⟩
abbrev cX9_in : ByteArray := prog_11_method_3_code
def yX9_in : MethodName := ⟨RX9, "in", "(JJJ)Z"⟩
abbrev cX9_refuses : ByteArray := prog_11_method_4_code
def yX9_refuses : MethodName := ⟨RX9, "refuses", "(I)I"⟩
abbrev cX9_keep : ByteArray := prog_11_method_5_code
def yX9_keep : MethodName := ⟨RX9, "keep", "()V"⟩
abbrev cX9_isHost : ByteArray := prog_11_method_6_code
def yX9_isHost : MethodName := ⟨RX9, "isHost", "(I)Z"⟩
abbrev cX9_isAwake : ByteArray := prog_11_method_7_code
def yX9_isAwake : MethodName := ⟨RX9, "isAwake", "(I)Z"⟩
abbrev cX9_proxy : ByteArray := prog_11_method_8_code
def yX9_proxy : MethodName := ⟨RX9, "proxy", "(I)I"⟩
abbrev cX9_records : ByteArray := prog_11_method_9_code
def yX9_records : MethodName := ⟨RX9, "records", "(I)I"⟩
abbrev cX9_entries : ByteArray := prog_11_method_10_code
def yX9_entries : MethodName := ⟨RX9, "entries", "(I)I"⟩
abbrev cX9_at : ByteArray := prog_11_method_11_code
def yX9_at : MethodName := ⟨RX9, "at", "(II)I"⟩
abbrev cX9_kept : ByteArray := prog_11_method_12_code
def yX9_kept : MethodName := ⟨RX9, "kept", "(II)I"⟩
abbrev cX9_areOne : ByteArray := prog_11_method_13_code
def yX9_areOne : MethodName := ⟨RX9, "areOne", "(II)Z"⟩
abbrev cX9_areSame : ByteArray := prog_11_method_14_code
def yX9_areSame : MethodName := ⟨RX9, "areSame", "(II)Z"⟩
abbrev cX9_isDefended : ByteArray := prog_11_method_15_code
def yX9_isDefended : MethodName := ⟨RX9, "isDefended", "(II)Z"⟩
abbrev cX9_dropsEntry : ByteArray := prog_11_method_16_code
def yX9_dropsEntry : MethodName := ⟨RX9, "dropsEntry", "(II)V"⟩
abbrev cX9_hasSame : ByteArray := prog_11_method_17_code
def yX9_hasSame : MethodName := ⟨RX9, "hasSame", "(II)Z"⟩
abbrev cX9_shortens : ByteArray := prog_11_method_18_code
def yX9_shortens : MethodName := ⟨RX9, "shortens", "(I)V"⟩
abbrev cX9_hears : ByteArray := prog_11_method_19_code
def yX9_hears : MethodName := ⟨RX9, "hears", "(II)V"⟩
abbrev cX9_says : ByteArray := prog_11_method_20_code
def yX9_says : MethodName := ⟨RX9, "says", "(II)V"⟩
abbrev cX9_canHost : ByteArray := prog_11_method_21_code
def yX9_canHost : MethodName := ⟨RX9, "canHost", "()I"⟩
abbrev cX9_hostNow : ByteArray := prog_11_method_22_code
def yX9_hostNow : MethodName := ⟨RX9, "hostNow", "()I"⟩
abbrev cX9_host : ByteArray := prog_11_method_23_code
def yX9_host : MethodName := ⟨RX9, "host", "()I"⟩
abbrev cX9_isName : ByteArray := prog_11_method_24_code
def yX9_isName : MethodName := ⟨RX9, "isName", "(II)Z"⟩
abbrev cX9_canRecord : ByteArray := prog_11_method_25_code
def yX9_canRecord : MethodName := ⟨RX9, "canRecord", "(IIIII)I"⟩
abbrev cX9_recordNow : ByteArray := prog_11_method_26_code
def yX9_recordNow : MethodName := ⟨RX9, "recordNow", "(IIIIIZ)I"⟩
abbrev cX9_claims : ByteArray := prog_11_method_27_code
def yX9_claims : MethodName := ⟨RX9, "claims", "(IIIII)I"⟩
abbrev cX9_shares : ByteArray := prog_11_method_28_code
def yX9_shares : MethodName := ⟨RX9, "shares", "(IIIII)I"⟩
abbrev cX9_isRecord : ByteArray := prog_11_method_29_code
def yX9_isRecord : MethodName := ⟨RX9, "isRecord", "(II)Z"⟩
abbrev cX9_canLeave : ByteArray := prog_11_method_30_code
def yX9_canLeave : MethodName := ⟨RX9, "canLeave", "(II)I"⟩
abbrev cX9_leaveNow : ByteArray := prog_11_method_31_code
def yX9_leaveNow : MethodName := ⟨RX9, "leaveNow", "(II)I"⟩
abbrev cX9_leaves : ByteArray := prog_11_method_32_code
def yX9_leaves : MethodName := ⟨RX9, "leaves", "(II)I"⟩
abbrev cX9_recordThen : ByteArray := prog_11_method_33_code
def yX9_recordThen : MethodName := ⟨RX9, "recordThen", "(III)I"⟩
abbrev cX9_record : ByteArray := prog_11_method_34_code
def yX9_record : MethodName := ⟨RX9, "record", "(III)I"⟩
abbrev cX9_owned : ByteArray := prog_11_method_35_code
def yX9_owned : MethodName := ⟨RX9, "owned", "(I)I"⟩
abbrev cX9_stoodFor : ByteArray := prog_11_method_36_code
def yX9_stoodFor : MethodName := ⟨RX9, "stoodFor", "(I)I"⟩
abbrev cX9_ofNow : ByteArray := prog_11_method_37_code
def yX9_ofNow : MethodName := ⟨RX9, "ofNow", "(II)I"⟩
abbrev cX9_of : ByteArray := prog_11_method_38_code
def yX9_of : MethodName := ⟨RX9, "of", "(II)I"⟩
abbrev cX9_ages : ByteArray := prog_11_method_39_code
def yX9_ages : MethodName := ⟨RX9, "ages", "()V"⟩
abbrev cX9_isOpposed : ByteArray := prog_11_method_40_code
def yX9_isOpposed : MethodName := ⟨RX9, "isOpposed", "(II)Z"⟩
abbrev cX9_isOutbid : ByteArray := prog_11_method_41_code
def yX9_isOutbid : MethodName := ⟨RX9, "isOutbid", "(II)Z"⟩
abbrev cX9_probes : ByteArray := prog_11_method_42_code
def yX9_probes : MethodName := ⟨RX9, "probes", "(II)V"⟩
abbrev cX9_ticksOne : ByteArray := prog_11_method_43_code
def yX9_ticksOne : MethodName := ⟨RX9, "ticksOne", "()V"⟩
abbrev cX9_tickNow : ByteArray := prog_11_method_44_code
def yX9_tickNow : MethodName := ⟨RX9, "tickNow", "(I)I"⟩
abbrev cX9_ticks : ByteArray := prog_11_method_45_code
def yX9_ticks : MethodName := ⟨RX9, "ticks", "(I)I"⟩
abbrev cX9_rateBits : ByteArray := prog_11_method_46_code
def yX9_rateBits : MethodName := ⟨RX9, "rateBits", "()I"⟩
abbrev cX9_rate : ByteArray := prog_11_method_47_code
def yX9_rate : MethodName := ⟨RX9, "rate", "()I"⟩
abbrev cX9_canAsk : ByteArray := prog_11_method_48_code
def yX9_canAsk : MethodName := ⟨RX9, "canAsk", "(III)I"⟩
abbrev cX9_askNow : ByteArray := prog_11_method_49_code
def yX9_askNow : MethodName := ⟨RX9, "askNow", "(III)I"⟩
abbrev cX9_asks : ByteArray := prog_11_method_50_code
def yX9_asks : MethodName := ⟨RX9, "asks", "(III)I"⟩
abbrev cX9_entryNow : ByteArray := prog_11_method_51_code
def yX9_entryNow : MethodName := ⟨RX9, "entryNow", "(III)I"⟩
abbrev cX9_entry : ByteArray := prog_11_method_52_code
def yX9_entry : MethodName := ⟨RX9, "entry", "(III)I"⟩
abbrev cX9_findsNow : ByteArray := prog_11_method_53_code
def yX9_findsNow : MethodName := ⟨RX9, "findsNow", "(IIII)I"⟩
abbrev cX9_finds : ByteArray := prog_11_method_54_code
def yX9_finds : MethodName := ⟨RX9, "finds", "(IIII)I"⟩
abbrev cX9_ownerNow : ByteArray := prog_11_method_55_code
def yX9_ownerNow : MethodName := ⟨RX9, "ownerNow", "(III)I"⟩
abbrev cX9_owner : ByteArray := prog_11_method_56_code
def yX9_owner : MethodName := ⟨RX9, "owner", "(III)I"⟩
abbrev cX9_isOwned : ByteArray := prog_11_method_57_code
def yX9_isOwned : MethodName := ⟨RX9, "isOwned", "(I)Z"⟩
abbrev cX9_allNow : ByteArray := prog_11_method_58_code
def yX9_allNow : MethodName := ⟨RX9, "allNow", "(I)I"⟩
abbrev cX9_all : ByteArray := prog_11_method_59_code
def yX9_all : MethodName := ⟨RX9, "all", "(I)I"⟩
abbrev cX9_canSleep : ByteArray := prog_11_method_60_code
def yX9_canSleep : MethodName := ⟨RX9, "canSleep", "(II)I"⟩
abbrev cX9_sleepNow : ByteArray := prog_11_method_61_code
def yX9_sleepNow : MethodName := ⟨RX9, "sleepNow", "(II)I"⟩
abbrev cX9_sleeps : ByteArray := prog_11_method_62_code
def yX9_sleeps : MethodName := ⟨RX9, "sleeps", "(II)I"⟩
abbrev cX9_canWake : ByteArray := prog_11_method_63_code
def yX9_canWake : MethodName := ⟨RX9, "canWake", "(I)I"⟩
abbrev cX9_wakeNow : ByteArray := prog_11_method_64_code
def yX9_wakeNow : MethodName := ⟨RX9, "wakeNow", "(I)I"⟩
abbrev cX9_wakes : ByteArray := prog_11_method_65_code
def yX9_wakes : MethodName := ⟨RX9, "wakes", "(I)I"⟩
abbrev cX9_type : ByteArray := prog_11_method_66_code
def yX9_type : MethodName := ⟨RX9, "type", "(I)I"⟩
abbrev cX9_clear : ByteArray := prog_11_method_67_code
def yX9_clear : MethodName := ⟨RX9, "clear", "()I"⟩
abbrev cX9_here : ByteArray := prog_11_method_68_code
def yX9_here : MethodName := ⟨RX9, "here", "()I"⟩
abbrev cX9_isFigure : ByteArray := prog_11_method_69_code
def yX9_isFigure : MethodName := ⟨RX9, "isFigure", "(I)Z"⟩
abbrev cX9_takes : ByteArray := prog_11_method_70_code
def yX9_takes : MethodName := ⟨RX9, "takes", "(I)Z"⟩
abbrev cX9_numbersOf : ByteArray := prog_11_method_71_code
def yX9_numbersOf : MethodName := ⟨RX9, "numbersOf", "(I)I"⟩
abbrev cX9_can : ByteArray := prog_11_method_72_code
def yX9_can : MethodName := ⟨RX9, "can", "(I)I"⟩
abbrev cX9_does : ByteArray := prog_11_method_73_code
def yX9_does : MethodName := ⟨RX9, "does", "(I)I"⟩
abbrev cX9_readsOrder : ByteArray := prog_11_method_74_code
def yX9_readsOrder : MethodName := ⟨RX9, "readsOrder", "(Z)Z"⟩
abbrev cX9_reads : ByteArray := prog_11_method_75_code
def yX9_reads : MethodName := ⟨RX9, "reads", "()I"⟩
abbrev cX9_setsAside : ByteArray := prog_11_method_76_code
def yX9_setsAside : MethodName := ⟨RX9, "setsAside", "()V"⟩
abbrev cX9_takesAside : ByteArray := prog_11_method_77_code
def yX9_takesAside : MethodName := ⟨RX9, "takesAside", "()V"⟩
abbrev cX9_keepsAside : ByteArray := prog_11_method_78_code
def yX9_keepsAside : MethodName := ⟨RX9, "keepsAside", "()V"⟩
abbrev cX9_why : ByteArray := prog_11_method_79_code
def yX9_why : MethodName := ⟨RX9, "why", "(I)I"⟩
abbrev cX9_back : ByteArray := prog_11_method_80_code
def yX9_back : MethodName := ⟨RX9, "back", "()I"⟩
abbrev cX9_toldOf : ByteArray := prog_11_method_81_code
def yX9_toldOf : MethodName := ⟨RX9, "toldOf", "(I)I"⟩
abbrev cX9_told : ByteArray := prog_11_method_82_code
def yX9_told : MethodName := ⟨RX9, "told", "(I)I"⟩
abbrev cX9_digest : ByteArray := prog_11_method_83_code
def yX9_digest : MethodName := ⟨RX9, "digest", "()J"⟩
def RJxf58ca : String := "java/lang/Float"
def TJxf58ca : u_T := fun k => match k with
  | _ => ("", "", "", false)
def tyJxf58ca : Nat → FieldType := fun k => match k with
  | _ => .int
abbrev wsJxf58ca0 : List Cond := u_ws RJxf58ca TJxf58ca 0
theorem nmJxf58ca : ∀ a, a < 0 → ∀ b, b < 0 → a ≠ b → (TJxf58ca a).2.1 ≠ (TJxf58ca b).2.1 := by decide +kernel
theorem tyJxf58ca_ok : ∀ k, k < 0 → parseFieldDescriptor (TJxf58ca k).2.2.1 = some (tyJxf58ca k) := by decide +kernel
abbrev cJxf58ca_isNaN_12338 : ByteArray := prog_12_method_6_code
def yJxf58ca_isNaN_12338 : MethodName := ⟨RJxf58ca, "isNaN", "(F)Z"⟩
abbrev cJxf58ca_floatToIntBits_5c35a : ByteArray := prog_12_method_24_code
def yJxf58ca_floatToIntBits_5c35a : MethodName := ⟨RJxf58ca, "floatToIntBits", "(F)I"⟩
def RJ9 : String := "java/lang/Math"
def TJ9 : u_T := fun k => match k with
  | _ => ("", "", "", false)
def tyJ9 : Nat → FieldType := fun k => match k with
  | _ => .int
abbrev wsJ90 : List Cond := u_ws RJ9 TJ9 0
theorem nmJ9 : ∀ a, a < 0 → ∀ b, b < 0 → a ≠ b → (TJ9 a).2.1 ≠ (TJ9 b).2.1 := by decide +kernel
theorem tyJ9_ok : ∀ k, k < 0 → parseFieldDescriptor (TJ9 k).2.2.1 = some (tyJ9 k) := by decide +kernel
abbrev cJ9_max_7cf53 : ByteArray := prog_13_method_65_code
def yJ9_max_7cf53 : MethodName := ⟨RJ9, "max", "(II)I"⟩
abbrev cJ9_min_7cf53 : ByteArray := prog_13_method_69_code
def yJ9_min_7cf53 : MethodName := ⟨RJ9, "min", "(II)I"⟩
def RL : String := "LinkNamesLaw"
abbrev cL_law : ByteArray := code
def yL_law : MethodName := ⟨RL, "law", "([I)Z"⟩
abbrev vwCl : List vw_C := [(RX0, TX0, 2), (RX1, TX1, 1), (RX2, TX2, 5), (RX3, TX3, 3), (RX4, TX4, 5), (RX5, TX5, 10), (RX6, TX6, 7), (RX7, TX7, 8), (RX8, TX8, 8), (RX9, TX9, 16)]
end
section
theorem dX0_init_0 : decode cX0_init 0 = .ok (.aload_n 0, 1) := by decide +kernel
theorem dX0_init_1 : decode cX0_init 1 = .ok (.invokespecial 3, 3) := by decide +kernel
theorem dX0_init_4 : decode cX0_init 4 = .ok (.aload_n 0, 1) := by decide +kernel
theorem dX0_init_5 : decode cX0_init 5 = .ok (.bipush 6, 2) := by decide +kernel
theorem dX0_init_7 : decode cX0_init 7 = .ok (.anewarray 9, 3) := by decide +kernel
theorem dX0_init_10 : decode cX0_init 10 = .ok (.putfield 11, 3) := by decide +kernel
theorem dX0_init_13 : decode cX0_init 13 = .ok (.iconst 0, 1) := by decide +kernel
theorem dX0_init_14 : decode cX0_init 14 = .ok (.istore_n 1, 1) := by decide +kernel
theorem dX0_init_15 : decode cX0_init 15 = .ok (.iload_n 1, 1) := by decide +kernel
theorem dX0_init_16 : decode cX0_init 16 = .ok (.bipush 6, 2) := by decide +kernel
theorem dX0_init_18 : decode cX0_init 18 = .ok (.if_icmp .ge 22, 3) := by decide +kernel
theorem dX0_init_21 : decode cX0_init 21 = .ok (.aload_n 0, 1) := by decide +kernel
theorem dX0_init_22 : decode cX0_init 22 = .ok (.getfield 11, 3) := by decide +kernel
theorem dX0_init_25 : decode cX0_init 25 = .ok (.iload_n 1, 1) := by decide +kernel
theorem dX0_init_26 : decode cX0_init 26 = .ok (.new 9, 3) := by decide +kernel
theorem dX0_init_29 : decode cX0_init 29 = .ok (.dup, 1) := by decide +kernel
theorem dX0_init_30 : decode cX0_init 30 = .ok (.invokespecial 17, 3) := by decide +kernel
theorem dX0_init_33 : decode cX0_init 33 = .ok (.aastore, 1) := by decide +kernel
theorem dX0_init_34 : decode cX0_init 34 = .ok (.iinc 1 1, 3) := by decide +kernel
theorem dX0_init_37 : decode cX0_init 37 = .ok (.goto (-22), 3) := by decide +kernel
theorem dX0_init_40 : decode cX0_init 40 = .ok (.return_, 1) := by decide +kernel
theorem dX0_become_0 : decode cX0_become 0 = .ok (.aload_n 0, 1) := by decide +kernel
theorem dX0_become_1 : decode cX0_become 1 = .ok (.aload_n 1, 1) := by decide +kernel
theorem dX0_become_2 : decode cX0_become 2 = .ok (.getfield 18, 3) := by decide +kernel
theorem dX0_become_5 : decode cX0_become 5 = .ok (.putfield 18, 3) := by decide +kernel
theorem dX0_become_8 : decode cX0_become 8 = .ok (.iconst 0, 1) := by decide +kernel
theorem dX0_become_9 : decode cX0_become 9 = .ok (.istore_n 2, 1) := by decide +kernel
theorem dX0_become_10 : decode cX0_become 10 = .ok (.iload_n 2, 1) := by decide +kernel
theorem dX0_become_11 : decode cX0_become 11 = .ok (.aload_n 0, 1) := by decide +kernel
theorem dX0_become_12 : decode cX0_become 12 = .ok (.getfield 18, 3) := by decide +kernel
theorem dX0_become_15 : decode cX0_become 15 = .ok (.if_icmp .ge 24, 3) := by decide +kernel
theorem dX0_become_18 : decode cX0_become 18 = .ok (.aload_n 0, 1) := by decide +kernel
theorem dX0_become_19 : decode cX0_become 19 = .ok (.getfield 11, 3) := by decide +kernel
theorem dX0_become_22 : decode cX0_become 22 = .ok (.iload_n 2, 1) := by decide +kernel
theorem dX0_become_23 : decode cX0_become 23 = .ok (.aaload, 1) := by decide +kernel
theorem dX0_become_24 : decode cX0_become 24 = .ok (.aload_n 1, 1) := by decide +kernel
theorem dX0_become_25 : decode cX0_become 25 = .ok (.getfield 11, 3) := by decide +kernel
theorem dX0_become_28 : decode cX0_become 28 = .ok (.iload_n 2, 1) := by decide +kernel
theorem dX0_become_29 : decode cX0_become 29 = .ok (.aaload, 1) := by decide +kernel
theorem dX0_become_30 : decode cX0_become 30 = .ok (.invokevirtual 22, 3) := by decide +kernel
theorem dX0_become_33 : decode cX0_become 33 = .ok (.iinc 2 1, 3) := by decide +kernel
theorem dX0_become_36 : decode cX0_become 36 = .ok (.goto (-26), 3) := by decide +kernel
theorem dX0_become_39 : decode cX0_become 39 = .ok (.return_, 1) := by decide +kernel
theorem dX0_indexOf_0 : decode cX0_indexOf 0 = .ok (.iconst 0, 1) := by decide +kernel
theorem dX0_indexOf_1 : decode cX0_indexOf 1 = .ok (.istore 4, 2) := by decide +kernel
theorem dX0_indexOf_3 : decode cX0_indexOf 3 = .ok (.iload 4, 2) := by decide +kernel
theorem dX0_indexOf_5 : decode cX0_indexOf 5 = .ok (.aload_n 0, 1) := by decide +kernel
theorem dX0_indexOf_6 : decode cX0_indexOf 6 = .ok (.getfield 18, 3) := by decide +kernel
theorem dX0_indexOf_9 : decode cX0_indexOf 9 = .ok (.if_icmp .ge 48, 3) := by decide +kernel
theorem dX0_indexOf_12 : decode cX0_indexOf 12 = .ok (.aload_n 0, 1) := by decide +kernel
theorem dX0_indexOf_13 : decode cX0_indexOf 13 = .ok (.getfield 11, 3) := by decide +kernel
theorem dX0_indexOf_16 : decode cX0_indexOf 16 = .ok (.iload 4, 2) := by decide +kernel
theorem dX0_indexOf_18 : decode cX0_indexOf 18 = .ok (.aaload, 1) := by decide +kernel
theorem dX0_indexOf_19 : decode cX0_indexOf 19 = .ok (.astore 5, 2) := by decide +kernel
theorem dX0_indexOf_21 : decode cX0_indexOf 21 = .ok (.aload 5, 2) := by decide +kernel
theorem dX0_indexOf_23 : decode cX0_indexOf 23 = .ok (.getfield 26, 3) := by decide +kernel
theorem dX0_indexOf_26 : decode cX0_indexOf 26 = .ok (.iload_n 1, 1) := by decide +kernel
theorem dX0_indexOf_27 : decode cX0_indexOf 27 = .ok (.if_icmp .ne 24, 3) := by decide +kernel
theorem dX0_indexOf_30 : decode cX0_indexOf 30 = .ok (.aload 5, 2) := by decide +kernel
theorem dX0_indexOf_32 : decode cX0_indexOf 32 = .ok (.getfield 29, 3) := by decide +kernel
theorem dX0_indexOf_35 : decode cX0_indexOf 35 = .ok (.iload_n 2, 1) := by decide +kernel
theorem dX0_indexOf_36 : decode cX0_indexOf 36 = .ok (.if_icmp .ne 15, 3) := by decide +kernel
theorem dX0_indexOf_39 : decode cX0_indexOf 39 = .ok (.aload 5, 2) := by decide +kernel
theorem dX0_indexOf_41 : decode cX0_indexOf 41 = .ok (.getfield 32, 3) := by decide +kernel
theorem dX0_indexOf_44 : decode cX0_indexOf 44 = .ok (.iload_n 3, 1) := by decide +kernel
theorem dX0_indexOf_45 : decode cX0_indexOf 45 = .ok (.if_icmp .ne 6, 3) := by decide +kernel
theorem dX0_indexOf_48 : decode cX0_indexOf 48 = .ok (.iload 4, 2) := by decide +kernel
theorem dX0_indexOf_50 : decode cX0_indexOf 50 = .ok (.ireturn, 1) := by decide +kernel
theorem dX0_indexOf_51 : decode cX0_indexOf 51 = .ok (.iinc 4 1, 3) := by decide +kernel
theorem dX0_indexOf_54 : decode cX0_indexOf 54 = .ok (.goto (-51), 3) := by decide +kernel
theorem dX0_indexOf_57 : decode cX0_indexOf 57 = .ok (.iconst (-1), 1) := by decide +kernel
theorem dX0_indexOf_58 : decode cX0_indexOf 58 = .ok (.ireturn, 1) := by decide +kernel
theorem dX0_removeAt_0 : decode cX0_removeAt 0 = .ok (.iload_n 1, 1) := by decide +kernel
theorem dX0_removeAt_1 : decode cX0_removeAt 1 = .ok (.ifCond .lt 11, 3) := by decide +kernel
theorem dX0_removeAt_4 : decode cX0_removeAt 4 = .ok (.iload_n 1, 1) := by decide +kernel
theorem dX0_removeAt_5 : decode cX0_removeAt 5 = .ok (.aload_n 0, 1) := by decide +kernel
theorem dX0_removeAt_6 : decode cX0_removeAt 6 = .ok (.getfield 18, 3) := by decide +kernel
theorem dX0_removeAt_9 : decode cX0_removeAt 9 = .ok (.if_icmp .lt 4, 3) := by decide +kernel
theorem dX0_removeAt_12 : decode cX0_removeAt 12 = .ok (.return_, 1) := by decide +kernel
theorem dX0_removeAt_13 : decode cX0_removeAt 13 = .ok (.aload_n 0, 1) := by decide +kernel
theorem dX0_removeAt_14 : decode cX0_removeAt 14 = .ok (.getfield 11, 3) := by decide +kernel
theorem dX0_removeAt_17 : decode cX0_removeAt 17 = .ok (.iload_n 1, 1) := by decide +kernel
theorem dX0_removeAt_18 : decode cX0_removeAt 18 = .ok (.aaload, 1) := by decide +kernel
theorem dX0_removeAt_19 : decode cX0_removeAt 19 = .ok (.astore_n 2, 1) := by decide +kernel
theorem dX0_removeAt_20 : decode cX0_removeAt 20 = .ok (.iload_n 1, 1) := by decide +kernel
theorem dX0_removeAt_21 : decode cX0_removeAt 21 = .ok (.istore_n 3, 1) := by decide +kernel
theorem dX0_removeAt_22 : decode cX0_removeAt 22 = .ok (.iload_n 3, 1) := by decide +kernel
theorem dX0_removeAt_23 : decode cX0_removeAt 23 = .ok (.aload_n 0, 1) := by decide +kernel
theorem dX0_removeAt_24 : decode cX0_removeAt 24 = .ok (.getfield 18, 3) := by decide +kernel
theorem dX0_removeAt_27 : decode cX0_removeAt 27 = .ok (.iconst 1, 1) := by decide +kernel
theorem dX0_removeAt_28 : decode cX0_removeAt 28 = .ok (.isub, 1) := by decide +kernel
theorem dX0_removeAt_29 : decode cX0_removeAt 29 = .ok (.if_icmp .ge 23, 3) := by decide +kernel
theorem dX0_removeAt_32 : decode cX0_removeAt 32 = .ok (.aload_n 0, 1) := by decide +kernel
theorem dX0_removeAt_33 : decode cX0_removeAt 33 = .ok (.getfield 11, 3) := by decide +kernel
theorem dX0_removeAt_36 : decode cX0_removeAt 36 = .ok (.iload_n 3, 1) := by decide +kernel
theorem dX0_removeAt_37 : decode cX0_removeAt 37 = .ok (.aload_n 0, 1) := by decide +kernel
theorem dX0_removeAt_38 : decode cX0_removeAt 38 = .ok (.getfield 11, 3) := by decide +kernel
theorem dX0_removeAt_41 : decode cX0_removeAt 41 = .ok (.iload_n 3, 1) := by decide +kernel
theorem dX0_removeAt_42 : decode cX0_removeAt 42 = .ok (.iconst 1, 1) := by decide +kernel
theorem dX0_removeAt_43 : decode cX0_removeAt 43 = .ok (.iadd, 1) := by decide +kernel
theorem dX0_removeAt_44 : decode cX0_removeAt 44 = .ok (.aaload, 1) := by decide +kernel
theorem dX0_removeAt_45 : decode cX0_removeAt 45 = .ok (.aastore, 1) := by decide +kernel
theorem dX0_removeAt_46 : decode cX0_removeAt 46 = .ok (.iinc 3 1, 3) := by decide +kernel
theorem dX0_removeAt_49 : decode cX0_removeAt 49 = .ok (.goto (-27), 3) := by decide +kernel
theorem dX0_removeAt_52 : decode cX0_removeAt 52 = .ok (.aload_n 0, 1) := by decide +kernel
theorem dX0_removeAt_53 : decode cX0_removeAt 53 = .ok (.dup, 1) := by decide +kernel
theorem dX0_removeAt_54 : decode cX0_removeAt 54 = .ok (.getfield 18, 3) := by decide +kernel
theorem dX0_removeAt_57 : decode cX0_removeAt 57 = .ok (.iconst 1, 1) := by decide +kernel
theorem dX0_removeAt_58 : decode cX0_removeAt 58 = .ok (.isub, 1) := by decide +kernel
theorem dX0_removeAt_59 : decode cX0_removeAt 59 = .ok (.putfield 18, 3) := by decide +kernel
theorem dX0_removeAt_62 : decode cX0_removeAt 62 = .ok (.aload_n 0, 1) := by decide +kernel
theorem dX0_removeAt_63 : decode cX0_removeAt 63 = .ok (.getfield 11, 3) := by decide +kernel
theorem dX0_removeAt_66 : decode cX0_removeAt 66 = .ok (.aload_n 0, 1) := by decide +kernel
theorem dX0_removeAt_67 : decode cX0_removeAt 67 = .ok (.getfield 18, 3) := by decide +kernel
theorem dX0_removeAt_70 : decode cX0_removeAt 70 = .ok (.aload_n 2, 1) := by decide +kernel
theorem dX0_removeAt_71 : decode cX0_removeAt 71 = .ok (.aastore, 1) := by decide +kernel
theorem dX0_removeAt_72 : decode cX0_removeAt 72 = .ok (.return_, 1) := by decide +kernel
theorem dX0_removeEnded_0 : decode cX0_removeEnded 0 = .ok (.aload_n 0, 1) := by decide +kernel
theorem dX0_removeEnded_1 : decode cX0_removeEnded 1 = .ok (.getfield 18, 3) := by decide +kernel
theorem dX0_removeEnded_4 : decode cX0_removeEnded 4 = .ok (.iconst 1, 1) := by decide +kernel
theorem dX0_removeEnded_5 : decode cX0_removeEnded 5 = .ok (.isub, 1) := by decide +kernel
theorem dX0_removeEnded_6 : decode cX0_removeEnded 6 = .ok (.istore_n 2, 1) := by decide +kernel
theorem dX0_removeEnded_7 : decode cX0_removeEnded 7 = .ok (.iload_n 2, 1) := by decide +kernel
theorem dX0_removeEnded_8 : decode cX0_removeEnded 8 = .ok (.ifCond .lt 27, 3) := by decide +kernel
theorem dX0_removeEnded_11 : decode cX0_removeEnded 11 = .ok (.aload_n 0, 1) := by decide +kernel
theorem dX0_removeEnded_12 : decode cX0_removeEnded 12 = .ok (.getfield 11, 3) := by decide +kernel
theorem dX0_removeEnded_15 : decode cX0_removeEnded 15 = .ok (.iload_n 2, 1) := by decide +kernel
theorem dX0_removeEnded_16 : decode cX0_removeEnded 16 = .ok (.aaload, 1) := by decide +kernel
theorem dX0_removeEnded_17 : decode cX0_removeEnded 17 = .ok (.getfield 35, 3) := by decide +kernel
theorem dX0_removeEnded_20 : decode cX0_removeEnded 20 = .ok (.iload_n 1, 1) := by decide +kernel
theorem dX0_removeEnded_21 : decode cX0_removeEnded 21 = .ok (.if_icmp .gt 8, 3) := by decide +kernel
theorem dX0_removeEnded_24 : decode cX0_removeEnded 24 = .ok (.aload_n 0, 1) := by decide +kernel
theorem dX0_removeEnded_25 : decode cX0_removeEnded 25 = .ok (.iload_n 2, 1) := by decide +kernel
theorem dX0_removeEnded_26 : decode cX0_removeEnded 26 = .ok (.invokevirtual 38, 3) := by decide +kernel
theorem dX0_removeEnded_29 : decode cX0_removeEnded 29 = .ok (.iinc 2 (-1), 3) := by decide +kernel
theorem dX0_removeEnded_32 : decode cX0_removeEnded 32 = .ok (.goto (-25), 3) := by decide +kernel
theorem dX0_removeEnded_35 : decode cX0_removeEnded 35 = .ok (.return_, 1) := by decide +kernel
theorem dX0_learn_0 : decode cX0_learn 0 = .ok (.aload_n 0, 1) := by decide +kernel
theorem dX0_learn_1 : decode cX0_learn 1 = .ok (.aload_n 0, 1) := by decide +kernel
theorem dX0_learn_2 : decode cX0_learn 2 = .ok (.aload_n 1, 1) := by decide +kernel
theorem dX0_learn_3 : decode cX0_learn 3 = .ok (.getfield 42, 3) := by decide +kernel
theorem dX0_learn_6 : decode cX0_learn 6 = .ok (.aload_n 1, 1) := by decide +kernel
theorem dX0_learn_7 : decode cX0_learn 7 = .ok (.getfield 45, 3) := by decide +kernel
theorem dX0_learn_10 : decode cX0_learn 10 = .ok (.aload_n 1, 1) := by decide +kernel
theorem dX0_learn_11 : decode cX0_learn 11 = .ok (.getfield 46, 3) := by decide +kernel
theorem dX0_learn_14 : decode cX0_learn 14 = .ok (.invokevirtual 47, 3) := by decide +kernel
theorem dX0_learn_17 : decode cX0_learn 17 = .ok (.invokevirtual 38, 3) := by decide +kernel
theorem dX0_learn_20 : decode cX0_learn 20 = .ok (.aload_n 0, 1) := by decide +kernel
theorem dX0_learn_21 : decode cX0_learn 21 = .ok (.getfield 18, 3) := by decide +kernel
theorem dX0_learn_24 : decode cX0_learn 24 = .ok (.bipush 6, 2) := by decide +kernel
theorem dX0_learn_26 : decode cX0_learn 26 = .ok (.if_icmp .lt 8, 3) := by decide +kernel
theorem dX0_learn_29 : decode cX0_learn 29 = .ok (.aload_n 0, 1) := by decide +kernel
theorem dX0_learn_30 : decode cX0_learn 30 = .ok (.iconst 0, 1) := by decide +kernel
theorem dX0_learn_31 : decode cX0_learn 31 = .ok (.invokevirtual 38, 3) := by decide +kernel
theorem dX0_learn_34 : decode cX0_learn 34 = .ok (.aload_n 0, 1) := by decide +kernel
theorem dX0_learn_35 : decode cX0_learn 35 = .ok (.getfield 11, 3) := by decide +kernel
theorem dX0_learn_38 : decode cX0_learn 38 = .ok (.aload_n 0, 1) := by decide +kernel
theorem dX0_learn_39 : decode cX0_learn 39 = .ok (.getfield 18, 3) := by decide +kernel
theorem dX0_learn_42 : decode cX0_learn 42 = .ok (.aaload, 1) := by decide +kernel
theorem dX0_learn_43 : decode cX0_learn 43 = .ok (.astore_n 3, 1) := by decide +kernel
theorem dX0_learn_44 : decode cX0_learn 44 = .ok (.aload_n 0, 1) := by decide +kernel
theorem dX0_learn_45 : decode cX0_learn 45 = .ok (.dup, 1) := by decide +kernel
theorem dX0_learn_46 : decode cX0_learn 46 = .ok (.getfield 18, 3) := by decide +kernel
theorem dX0_learn_49 : decode cX0_learn 49 = .ok (.iconst 1, 1) := by decide +kernel
theorem dX0_learn_50 : decode cX0_learn 50 = .ok (.iadd, 1) := by decide +kernel
theorem dX0_learn_51 : decode cX0_learn 51 = .ok (.putfield 18, 3) := by decide +kernel
theorem dX0_learn_54 : decode cX0_learn 54 = .ok (.aload_n 3, 1) := by decide +kernel
theorem dX0_learn_55 : decode cX0_learn 55 = .ok (.aload_n 1, 1) := by decide +kernel
theorem dX0_learn_56 : decode cX0_learn 56 = .ok (.getfield 42, 3) := by decide +kernel
theorem dX0_learn_59 : decode cX0_learn 59 = .ok (.putfield 26, 3) := by decide +kernel
theorem dX0_learn_62 : decode cX0_learn 62 = .ok (.aload_n 3, 1) := by decide +kernel
theorem dX0_learn_63 : decode cX0_learn 63 = .ok (.aload_n 1, 1) := by decide +kernel
theorem dX0_learn_64 : decode cX0_learn 64 = .ok (.getfield 45, 3) := by decide +kernel
theorem dX0_learn_67 : decode cX0_learn 67 = .ok (.putfield 29, 3) := by decide +kernel
theorem dX0_learn_70 : decode cX0_learn 70 = .ok (.aload_n 3, 1) := by decide +kernel
theorem dX0_learn_71 : decode cX0_learn 71 = .ok (.aload_n 1, 1) := by decide +kernel
theorem dX0_learn_72 : decode cX0_learn 72 = .ok (.getfield 46, 3) := by decide +kernel
theorem dX0_learn_75 : decode cX0_learn 75 = .ok (.putfield 32, 3) := by decide +kernel
theorem dX0_learn_78 : decode cX0_learn 78 = .ok (.aload_n 3, 1) := by decide +kernel
theorem dX0_learn_79 : decode cX0_learn 79 = .ok (.aload_n 1, 1) := by decide +kernel
theorem dX0_learn_80 : decode cX0_learn 80 = .ok (.getfield 51, 3) := by decide +kernel
theorem dX0_learn_83 : decode cX0_learn 83 = .ok (.putfield 54, 3) := by decide +kernel
theorem dX0_learn_86 : decode cX0_learn 86 = .ok (.aload_n 3, 1) := by decide +kernel
theorem dX0_learn_87 : decode cX0_learn 87 = .ok (.iload_n 2, 1) := by decide +kernel
theorem dX0_learn_88 : decode cX0_learn 88 = .ok (.aload_n 1, 1) := by decide +kernel
theorem dX0_learn_89 : decode cX0_learn 89 = .ok (.getfield 51, 3) := by decide +kernel
theorem dX0_learn_92 : decode cX0_learn 92 = .ok (.iadd, 1) := by decide +kernel
theorem dX0_learn_93 : decode cX0_learn 93 = .ok (.putfield 35, 3) := by decide +kernel
theorem dX0_learn_96 : decode cX0_learn 96 = .ok (.aload_n 1, 1) := by decide +kernel
theorem dX0_learn_97 : decode cX0_learn 97 = .ok (.getfield 55, 3) := by decide +kernel
theorem dX0_learn_100 : decode cX0_learn 100 = .ok (.ifCond .eq 11, 3) := by decide +kernel
theorem dX0_learn_103 : decode cX0_learn 103 = .ok (.aload_n 0, 1) := by decide +kernel
theorem dX0_learn_104 : decode cX0_learn 104 = .ok (.aload_n 1, 1) := by decide +kernel
theorem dX0_learn_105 : decode cX0_learn 105 = .ok (.iload_n 2, 1) := by decide +kernel
theorem dX0_learn_106 : decode cX0_learn 106 = .ok (.iconst 1, 1) := by decide +kernel
theorem dX0_learn_107 : decode cX0_learn 107 = .ok (.iadd, 1) := by decide +kernel
theorem dX0_learn_108 : decode cX0_learn 108 = .ok (.invokevirtual 59, 3) := by decide +kernel
theorem dX0_learn_111 : decode cX0_learn 111 = .ok (.return_, 1) := by decide +kernel
theorem dX0_endRivals_0 : decode cX0_endRivals 0 = .ok (.iconst 0, 1) := by decide +kernel
theorem dX0_endRivals_1 : decode cX0_endRivals 1 = .ok (.istore_n 3, 1) := by decide +kernel
theorem dX0_endRivals_2 : decode cX0_endRivals 2 = .ok (.iload_n 3, 1) := by decide +kernel
theorem dX0_endRivals_3 : decode cX0_endRivals 3 = .ok (.aload_n 0, 1) := by decide +kernel
theorem dX0_endRivals_4 : decode cX0_endRivals 4 = .ok (.getfield 18, 3) := by decide +kernel
theorem dX0_endRivals_7 : decode cX0_endRivals 7 = .ok (.if_icmp .ge 67, 3) := by decide +kernel
theorem dX0_endRivals_10 : decode cX0_endRivals 10 = .ok (.aload_n 0, 1) := by decide +kernel
theorem dX0_endRivals_11 : decode cX0_endRivals 11 = .ok (.getfield 11, 3) := by decide +kernel
theorem dX0_endRivals_14 : decode cX0_endRivals 14 = .ok (.iload_n 3, 1) := by decide +kernel
theorem dX0_endRivals_15 : decode cX0_endRivals 15 = .ok (.aaload, 1) := by decide +kernel
theorem dX0_endRivals_16 : decode cX0_endRivals 16 = .ok (.astore 4, 2) := by decide +kernel
theorem dX0_endRivals_18 : decode cX0_endRivals 18 = .ok (.aload 4, 2) := by decide +kernel
theorem dX0_endRivals_20 : decode cX0_endRivals 20 = .ok (.getfield 26, 3) := by decide +kernel
theorem dX0_endRivals_23 : decode cX0_endRivals 23 = .ok (.aload_n 1, 1) := by decide +kernel
theorem dX0_endRivals_24 : decode cX0_endRivals 24 = .ok (.getfield 42, 3) := by decide +kernel
theorem dX0_endRivals_27 : decode cX0_endRivals 27 = .ok (.if_icmp .ne 41, 3) := by decide +kernel
theorem dX0_endRivals_30 : decode cX0_endRivals 30 = .ok (.aload 4, 2) := by decide +kernel
theorem dX0_endRivals_32 : decode cX0_endRivals 32 = .ok (.getfield 29, 3) := by decide +kernel
theorem dX0_endRivals_35 : decode cX0_endRivals 35 = .ok (.aload_n 1, 1) := by decide +kernel
theorem dX0_endRivals_36 : decode cX0_endRivals 36 = .ok (.getfield 45, 3) := by decide +kernel
theorem dX0_endRivals_39 : decode cX0_endRivals 39 = .ok (.if_icmp .ne 29, 3) := by decide +kernel
theorem dX0_endRivals_42 : decode cX0_endRivals 42 = .ok (.aload 4, 2) := by decide +kernel
theorem dX0_endRivals_44 : decode cX0_endRivals 44 = .ok (.getfield 32, 3) := by decide +kernel
theorem dX0_endRivals_47 : decode cX0_endRivals 47 = .ok (.aload_n 1, 1) := by decide +kernel
theorem dX0_endRivals_48 : decode cX0_endRivals 48 = .ok (.getfield 46, 3) := by decide +kernel
theorem dX0_endRivals_51 : decode cX0_endRivals 51 = .ok (.if_icmp .eq 17, 3) := by decide +kernel
theorem dX0_endRivals_54 : decode cX0_endRivals 54 = .ok (.aload 4, 2) := by decide +kernel
theorem dX0_endRivals_56 : decode cX0_endRivals 56 = .ok (.aload 4, 2) := by decide +kernel
theorem dX0_endRivals_58 : decode cX0_endRivals 58 = .ok (.getfield 35, 3) := by decide +kernel
theorem dX0_endRivals_61 : decode cX0_endRivals 61 = .ok (.iload_n 2, 1) := by decide +kernel
theorem dX0_endRivals_62 : decode cX0_endRivals 62 = .ok (.invokestatic 63, 3) := by decide +kernel
theorem dX0_endRivals_65 : decode cX0_endRivals 65 = .ok (.putfield 35, 3) := by decide +kernel
theorem dX0_endRivals_68 : decode cX0_endRivals 68 = .ok (.iinc 3 1, 3) := by decide +kernel
theorem dX0_endRivals_71 : decode cX0_endRivals 71 = .ok (.goto (-69), 3) := by decide +kernel
theorem dX0_endRivals_74 : decode cX0_endRivals 74 = .ok (.return_, 1) := by decide +kernel
theorem dX0_endOf_0 : decode cX0_endOf 0 = .ok (.aload_n 0, 1) := by decide +kernel
theorem dX0_endOf_1 : decode cX0_endOf 1 = .ok (.aload_n 1, 1) := by decide +kernel
theorem dX0_endOf_2 : decode cX0_endOf 2 = .ok (.getfield 42, 3) := by decide +kernel
theorem dX0_endOf_5 : decode cX0_endOf 5 = .ok (.aload_n 1, 1) := by decide +kernel
theorem dX0_endOf_6 : decode cX0_endOf 6 = .ok (.getfield 45, 3) := by decide +kernel
theorem dX0_endOf_9 : decode cX0_endOf 9 = .ok (.aload_n 1, 1) := by decide +kernel
theorem dX0_endOf_10 : decode cX0_endOf 10 = .ok (.getfield 46, 3) := by decide +kernel
theorem dX0_endOf_13 : decode cX0_endOf 13 = .ok (.invokevirtual 47, 3) := by decide +kernel
theorem dX0_endOf_16 : decode cX0_endOf 16 = .ok (.istore_n 3, 1) := by decide +kernel
theorem dX0_endOf_17 : decode cX0_endOf 17 = .ok (.iload_n 3, 1) := by decide +kernel
theorem dX0_endOf_18 : decode cX0_endOf 18 = .ok (.iconst (-1), 1) := by decide +kernel
theorem dX0_endOf_19 : decode cX0_endOf 19 = .ok (.if_icmp .eq 25, 3) := by decide +kernel
theorem dX0_endOf_22 : decode cX0_endOf 22 = .ok (.aload_n 0, 1) := by decide +kernel
theorem dX0_endOf_23 : decode cX0_endOf 23 = .ok (.getfield 11, 3) := by decide +kernel
theorem dX0_endOf_26 : decode cX0_endOf 26 = .ok (.iload_n 3, 1) := by decide +kernel
theorem dX0_endOf_27 : decode cX0_endOf 27 = .ok (.aaload, 1) := by decide +kernel
theorem dX0_endOf_28 : decode cX0_endOf 28 = .ok (.aload_n 0, 1) := by decide +kernel
theorem dX0_endOf_29 : decode cX0_endOf 29 = .ok (.getfield 11, 3) := by decide +kernel
theorem dX0_endOf_32 : decode cX0_endOf 32 = .ok (.iload_n 3, 1) := by decide +kernel
theorem dX0_endOf_33 : decode cX0_endOf 33 = .ok (.aaload, 1) := by decide +kernel
theorem dX0_endOf_34 : decode cX0_endOf 34 = .ok (.getfield 35, 3) := by decide +kernel
theorem dX0_endOf_37 : decode cX0_endOf 37 = .ok (.iload_n 2, 1) := by decide +kernel
theorem dX0_endOf_38 : decode cX0_endOf 38 = .ok (.invokestatic 63, 3) := by decide +kernel
theorem dX0_endOf_41 : decode cX0_endOf 41 = .ok (.putfield 35, 3) := by decide +kernel
theorem dX0_endOf_44 : decode cX0_endOf 44 = .ok (.return_, 1) := by decide +kernel
theorem dX0_noteKnown_0 : decode cX0_noteKnown 0 = .ok (.iconst 0, 1) := by decide +kernel
theorem dX0_noteKnown_1 : decode cX0_noteKnown 1 = .ok (.istore 5, 2) := by decide +kernel
theorem dX0_noteKnown_3 : decode cX0_noteKnown 3 = .ok (.iload 5, 2) := by decide +kernel
theorem dX0_noteKnown_5 : decode cX0_noteKnown 5 = .ok (.aload_n 0, 1) := by decide +kernel
theorem dX0_noteKnown_6 : decode cX0_noteKnown 6 = .ok (.getfield 18, 3) := by decide +kernel
theorem dX0_noteKnown_9 : decode cX0_noteKnown 9 = .ok (.if_icmp .ge 55, 3) := by decide +kernel
theorem dX0_noteKnown_12 : decode cX0_noteKnown 12 = .ok (.aload_n 0, 1) := by decide +kernel
theorem dX0_noteKnown_13 : decode cX0_noteKnown 13 = .ok (.getfield 11, 3) := by decide +kernel
theorem dX0_noteKnown_16 : decode cX0_noteKnown 16 = .ok (.iload 5, 2) := by decide +kernel
theorem dX0_noteKnown_18 : decode cX0_noteKnown 18 = .ok (.aaload, 1) := by decide +kernel
theorem dX0_noteKnown_19 : decode cX0_noteKnown 19 = .ok (.astore 6, 2) := by decide +kernel
theorem dX0_noteKnown_21 : decode cX0_noteKnown 21 = .ok (.aload 6, 2) := by decide +kernel
theorem dX0_noteKnown_23 : decode cX0_noteKnown 23 = .ok (.iload_n 1, 1) := by decide +kernel
theorem dX0_noteKnown_24 : decode cX0_noteKnown 24 = .ok (.iload_n 2, 1) := by decide +kernel
theorem dX0_noteKnown_25 : decode cX0_noteKnown 25 = .ok (.invokevirtual 69, 3) := by decide +kernel
theorem dX0_noteKnown_28 : decode cX0_noteKnown 28 = .ok (.ifCond .eq 30, 3) := by decide +kernel
theorem dX0_noteKnown_31 : decode cX0_noteKnown 31 = .ok (.iconst 2, 1) := by decide +kernel
theorem dX0_noteKnown_32 : decode cX0_noteKnown 32 = .ok (.aload 6, 2) := by decide +kernel
theorem dX0_noteKnown_34 : decode cX0_noteKnown 34 = .ok (.getfield 35, 3) := by decide +kernel
theorem dX0_noteKnown_37 : decode cX0_noteKnown 37 = .ok (.iload_n 3, 1) := by decide +kernel
theorem dX0_noteKnown_38 : decode cX0_noteKnown 38 = .ok (.isub, 1) := by decide +kernel
theorem dX0_noteKnown_39 : decode cX0_noteKnown 39 = .ok (.imul, 1) := by decide +kernel
theorem dX0_noteKnown_40 : decode cX0_noteKnown 40 = .ok (.aload 6, 2) := by decide +kernel
theorem dX0_noteKnown_42 : decode cX0_noteKnown 42 = .ok (.getfield 54, 3) := by decide +kernel
theorem dX0_noteKnown_45 : decode cX0_noteKnown 45 = .ok (.if_icmp .lt 13, 3) := by decide +kernel
theorem dX0_noteKnown_48 : decode cX0_noteKnown 48 = .ok (.aload 4, 2) := by decide +kernel
theorem dX0_noteKnown_50 : decode cX0_noteKnown 50 = .ok (.aload 6, 2) := by decide +kernel
theorem dX0_noteKnown_52 : decode cX0_noteKnown 52 = .ok (.getfield 32, 3) := by decide +kernel
theorem dX0_noteKnown_55 : decode cX0_noteKnown 55 = .ok (.invokevirtual 73, 3) := by decide +kernel
theorem dX0_noteKnown_58 : decode cX0_noteKnown 58 = .ok (.iinc 5 1, 3) := by decide +kernel
theorem dX0_noteKnown_61 : decode cX0_noteKnown 61 = .ok (.goto (-58), 3) := by decide +kernel
theorem dX0_noteKnown_64 : decode cX0_noteKnown 64 = .ok (.return_, 1) := by decide +kernel
theorem dX0_newestData_0 : decode cX0_newestData 0 = .ok (.aload_n 0, 1) := by decide +kernel
theorem dX0_newestData_1 : decode cX0_newestData 1 = .ok (.getfield 18, 3) := by decide +kernel
theorem dX0_newestData_4 : decode cX0_newestData 4 = .ok (.iconst 1, 1) := by decide +kernel
theorem dX0_newestData_5 : decode cX0_newestData 5 = .ok (.isub, 1) := by decide +kernel
theorem dX0_newestData_6 : decode cX0_newestData 6 = .ok (.istore_n 3, 1) := by decide +kernel
theorem dX0_newestData_7 : decode cX0_newestData 7 = .ok (.iload_n 3, 1) := by decide +kernel
theorem dX0_newestData_8 : decode cX0_newestData 8 = .ok (.ifCond .lt 33, 3) := by decide +kernel
theorem dX0_newestData_11 : decode cX0_newestData 11 = .ok (.aload_n 0, 1) := by decide +kernel
theorem dX0_newestData_12 : decode cX0_newestData 12 = .ok (.getfield 11, 3) := by decide +kernel
theorem dX0_newestData_15 : decode cX0_newestData 15 = .ok (.iload_n 3, 1) := by decide +kernel
theorem dX0_newestData_16 : decode cX0_newestData 16 = .ok (.aaload, 1) := by decide +kernel
theorem dX0_newestData_17 : decode cX0_newestData 17 = .ok (.iload_n 1, 1) := by decide +kernel
theorem dX0_newestData_18 : decode cX0_newestData 18 = .ok (.iload_n 2, 1) := by decide +kernel
theorem dX0_newestData_19 : decode cX0_newestData 19 = .ok (.invokevirtual 69, 3) := by decide +kernel
theorem dX0_newestData_22 : decode cX0_newestData 22 = .ok (.ifCond .eq 13, 3) := by decide +kernel
theorem dX0_newestData_25 : decode cX0_newestData 25 = .ok (.aload_n 0, 1) := by decide +kernel
theorem dX0_newestData_26 : decode cX0_newestData 26 = .ok (.getfield 11, 3) := by decide +kernel
theorem dX0_newestData_29 : decode cX0_newestData 29 = .ok (.iload_n 3, 1) := by decide +kernel
theorem dX0_newestData_30 : decode cX0_newestData 30 = .ok (.aaload, 1) := by decide +kernel
theorem dX0_newestData_31 : decode cX0_newestData 31 = .ok (.getfield 32, 3) := by decide +kernel
theorem dX0_newestData_34 : decode cX0_newestData 34 = .ok (.ireturn, 1) := by decide +kernel
theorem dX0_newestData_35 : decode cX0_newestData 35 = .ok (.iinc 3 (-1), 3) := by decide +kernel
theorem dX0_newestData_38 : decode cX0_newestData 38 = .ok (.goto (-31), 3) := by decide +kernel
theorem dX0_newestData_41 : decode cX0_newestData 41 = .ok (.iconst (-1), 1) := by decide +kernel
theorem dX0_newestData_42 : decode cX0_newestData 42 = .ok (.ireturn, 1) := by decide +kernel
theorem dX0_countOf_0 : decode cX0_countOf 0 = .ok (.iconst 0, 1) := by decide +kernel
theorem dX0_countOf_1 : decode cX0_countOf 1 = .ok (.istore_n 3, 1) := by decide +kernel
theorem dX0_countOf_2 : decode cX0_countOf 2 = .ok (.iconst 0, 1) := by decide +kernel
theorem dX0_countOf_3 : decode cX0_countOf 3 = .ok (.istore 4, 2) := by decide +kernel
theorem dX0_countOf_5 : decode cX0_countOf 5 = .ok (.iload 4, 2) := by decide +kernel
theorem dX0_countOf_7 : decode cX0_countOf 7 = .ok (.aload_n 0, 1) := by decide +kernel
theorem dX0_countOf_8 : decode cX0_countOf 8 = .ok (.getfield 18, 3) := by decide +kernel
theorem dX0_countOf_11 : decode cX0_countOf 11 = .ok (.if_icmp .ge 27, 3) := by decide +kernel
theorem dX0_countOf_14 : decode cX0_countOf 14 = .ok (.iload_n 3, 1) := by decide +kernel
theorem dX0_countOf_15 : decode cX0_countOf 15 = .ok (.aload_n 0, 1) := by decide +kernel
theorem dX0_countOf_16 : decode cX0_countOf 16 = .ok (.getfield 11, 3) := by decide +kernel
theorem dX0_countOf_19 : decode cX0_countOf 19 = .ok (.iload 4, 2) := by decide +kernel
theorem dX0_countOf_21 : decode cX0_countOf 21 = .ok (.aaload, 1) := by decide +kernel
theorem dX0_countOf_22 : decode cX0_countOf 22 = .ok (.iload_n 1, 1) := by decide +kernel
theorem dX0_countOf_23 : decode cX0_countOf 23 = .ok (.iload_n 2, 1) := by decide +kernel
theorem dX0_countOf_24 : decode cX0_countOf 24 = .ok (.invokevirtual 69, 3) := by decide +kernel
theorem dX0_countOf_27 : decode cX0_countOf 27 = .ok (.invokestatic 78, 3) := by decide +kernel
theorem dX0_countOf_30 : decode cX0_countOf 30 = .ok (.iadd, 1) := by decide +kernel
theorem dX0_countOf_31 : decode cX0_countOf 31 = .ok (.istore_n 3, 1) := by decide +kernel
theorem dX0_countOf_32 : decode cX0_countOf 32 = .ok (.iinc 4 1, 3) := by decide +kernel
theorem dX0_countOf_35 : decode cX0_countOf 35 = .ok (.goto (-30), 3) := by decide +kernel
theorem dX0_countOf_38 : decode cX0_countOf 38 = .ok (.iload_n 3, 1) := by decide +kernel
theorem dX0_countOf_39 : decode cX0_countOf 39 = .ok (.ireturn, 1) := by decide +kernel
theorem dX0_longestLeft_0 : decode cX0_longestLeft 0 = .ok (.iconst (-1), 1) := by decide +kernel
theorem dX0_longestLeft_1 : decode cX0_longestLeft 1 = .ok (.istore 4, 2) := by decide +kernel
theorem dX0_longestLeft_3 : decode cX0_longestLeft 3 = .ok (.iconst 0, 1) := by decide +kernel
theorem dX0_longestLeft_4 : decode cX0_longestLeft 4 = .ok (.istore 5, 2) := by decide +kernel
theorem dX0_longestLeft_6 : decode cX0_longestLeft 6 = .ok (.iload 5, 2) := by decide +kernel
theorem dX0_longestLeft_8 : decode cX0_longestLeft 8 = .ok (.aload_n 0, 1) := by decide +kernel
theorem dX0_longestLeft_9 : decode cX0_longestLeft 9 = .ok (.getfield 18, 3) := by decide +kernel
theorem dX0_longestLeft_12 : decode cX0_longestLeft 12 = .ok (.if_icmp .ge 43, 3) := by decide +kernel
theorem dX0_longestLeft_15 : decode cX0_longestLeft 15 = .ok (.aload_n 0, 1) := by decide +kernel
theorem dX0_longestLeft_16 : decode cX0_longestLeft 16 = .ok (.getfield 11, 3) := by decide +kernel
theorem dX0_longestLeft_19 : decode cX0_longestLeft 19 = .ok (.iload 5, 2) := by decide +kernel
theorem dX0_longestLeft_21 : decode cX0_longestLeft 21 = .ok (.aaload, 1) := by decide +kernel
theorem dX0_longestLeft_22 : decode cX0_longestLeft 22 = .ok (.iload_n 1, 1) := by decide +kernel
theorem dX0_longestLeft_23 : decode cX0_longestLeft 23 = .ok (.iload_n 2, 1) := by decide +kernel
theorem dX0_longestLeft_24 : decode cX0_longestLeft 24 = .ok (.invokevirtual 69, 3) := by decide +kernel
theorem dX0_longestLeft_27 : decode cX0_longestLeft 27 = .ok (.ifCond .eq 22, 3) := by decide +kernel
theorem dX0_longestLeft_30 : decode cX0_longestLeft 30 = .ok (.iload 4, 2) := by decide +kernel
theorem dX0_longestLeft_32 : decode cX0_longestLeft 32 = .ok (.aload_n 0, 1) := by decide +kernel
theorem dX0_longestLeft_33 : decode cX0_longestLeft 33 = .ok (.getfield 11, 3) := by decide +kernel
theorem dX0_longestLeft_36 : decode cX0_longestLeft 36 = .ok (.iload 5, 2) := by decide +kernel
theorem dX0_longestLeft_38 : decode cX0_longestLeft 38 = .ok (.aaload, 1) := by decide +kernel
theorem dX0_longestLeft_39 : decode cX0_longestLeft 39 = .ok (.getfield 35, 3) := by decide +kernel
theorem dX0_longestLeft_42 : decode cX0_longestLeft 42 = .ok (.iload_n 3, 1) := by decide +kernel
theorem dX0_longestLeft_43 : decode cX0_longestLeft 43 = .ok (.isub, 1) := by decide +kernel
theorem dX0_longestLeft_44 : decode cX0_longestLeft 44 = .ok (.invokestatic 82, 3) := by decide +kernel
theorem dX0_longestLeft_47 : decode cX0_longestLeft 47 = .ok (.istore 4, 2) := by decide +kernel
theorem dX0_longestLeft_49 : decode cX0_longestLeft 49 = .ok (.iinc 5 1, 3) := by decide +kernel
theorem dX0_longestLeft_52 : decode cX0_longestLeft 52 = .ok (.goto (-46), 3) := by decide +kernel
theorem dX0_longestLeft_55 : decode cX0_longestLeft 55 = .ok (.iload 4, 2) := by decide +kernel
theorem dX0_longestLeft_57 : decode cX0_longestLeft 57 = .ok (.ireturn, 1) := by decide +kernel
theorem dX1_init_0 : decode cX1_init 0 = .ok (.aload_n 0, 1) := by decide +kernel
theorem dX1_init_1 : decode cX1_init 1 = .ok (.invokespecial 3, 3) := by decide +kernel
theorem dX1_init_4 : decode cX1_init 4 = .ok (.aload_n 0, 1) := by decide +kernel
theorem dX1_init_5 : decode cX1_init 5 = .ok (.iconst 4, 1) := by decide +kernel
theorem dX1_init_6 : decode cX1_init 6 = .ok (.newarray .long, 2) := by decide +kernel
theorem dX1_init_8 : decode cX1_init 8 = .ok (.putfield 9, 3) := by decide +kernel
theorem dX1_init_11 : decode cX1_init 11 = .ok (.return_, 1) := by decide +kernel
theorem dX1_empty_0 : decode cX1_empty 0 = .ok (.iconst 0, 1) := by decide +kernel
theorem dX1_empty_1 : decode cX1_empty 1 = .ok (.istore_n 1, 1) := by decide +kernel
theorem dX1_empty_2 : decode cX1_empty 2 = .ok (.iload_n 1, 1) := by decide +kernel
theorem dX1_empty_3 : decode cX1_empty 3 = .ok (.aload_n 0, 1) := by decide +kernel
theorem dX1_empty_4 : decode cX1_empty 4 = .ok (.getfield 9, 3) := by decide +kernel
theorem dX1_empty_7 : decode cX1_empty 7 = .ok (.arraylength, 1) := by decide +kernel
theorem dX1_empty_8 : decode cX1_empty 8 = .ok (.if_icmp .ge 16, 3) := by decide +kernel
theorem dX1_empty_11 : decode cX1_empty 11 = .ok (.aload_n 0, 1) := by decide +kernel
theorem dX1_empty_12 : decode cX1_empty 12 = .ok (.getfield 9, 3) := by decide +kernel
theorem dX1_empty_15 : decode cX1_empty 15 = .ok (.iload_n 1, 1) := by decide +kernel
theorem dX1_empty_16 : decode cX1_empty 16 = .ok (.lconst 0, 1) := by decide +kernel
theorem dX1_empty_17 : decode cX1_empty 17 = .ok (.lastore, 1) := by decide +kernel
theorem dX1_empty_18 : decode cX1_empty 18 = .ok (.iinc 1 1, 3) := by decide +kernel
theorem dX1_empty_21 : decode cX1_empty 21 = .ok (.goto (-19), 3) := by decide +kernel
theorem dX1_empty_24 : decode cX1_empty 24 = .ok (.return_, 1) := by decide +kernel
theorem dX1_add_0 : decode cX1_add 0 = .ok (.iload_n 1, 1) := by decide +kernel
theorem dX1_add_1 : decode cX1_add 1 = .ok (.iconst 0, 1) := by decide +kernel
theorem dX1_add_2 : decode cX1_add 2 = .ok (.sipush 255, 3) := by decide +kernel
theorem dX1_add_5 : decode cX1_add 5 = .ok (.invokestatic 15, 3) := by decide +kernel
theorem dX1_add_8 : decode cX1_add 8 = .ok (.ifCond .eq 21, 3) := by decide +kernel
theorem dX1_add_11 : decode cX1_add 11 = .ok (.aload_n 0, 1) := by decide +kernel
theorem dX1_add_12 : decode cX1_add 12 = .ok (.getfield 9, 3) := by decide +kernel
theorem dX1_add_15 : decode cX1_add 15 = .ok (.iload_n 1, 1) := by decide +kernel
theorem dX1_add_16 : decode cX1_add 16 = .ok (.bipush 64, 2) := by decide +kernel
theorem dX1_add_18 : decode cX1_add 18 = .ok (.idiv, 1) := by decide +kernel
theorem dX1_add_19 : decode cX1_add 19 = .ok (.dup2, 1) := by decide +kernel
theorem dX1_add_20 : decode cX1_add 20 = .ok (.laload, 1) := by decide +kernel
theorem dX1_add_21 : decode cX1_add 21 = .ok (.lconst 1, 1) := by decide +kernel
theorem dX1_add_22 : decode cX1_add 22 = .ok (.iload_n 1, 1) := by decide +kernel
theorem dX1_add_23 : decode cX1_add 23 = .ok (.bipush 64, 2) := by decide +kernel
theorem dX1_add_25 : decode cX1_add 25 = .ok (.irem, 1) := by decide +kernel
theorem dX1_add_26 : decode cX1_add 26 = .ok (.lshl, 1) := by decide +kernel
theorem dX1_add_27 : decode cX1_add 27 = .ok (.lor, 1) := by decide +kernel
theorem dX1_add_28 : decode cX1_add 28 = .ok (.lastore, 1) := by decide +kernel
theorem dX1_add_29 : decode cX1_add 29 = .ok (.return_, 1) := by decide +kernel
theorem dX1_has_0 : decode cX1_has 0 = .ok (.iload_n 1, 1) := by decide +kernel
theorem dX1_has_1 : decode cX1_has 1 = .ok (.iconst 0, 1) := by decide +kernel
theorem dX1_has_2 : decode cX1_has 2 = .ok (.sipush 255, 3) := by decide +kernel
theorem dX1_has_5 : decode cX1_has 5 = .ok (.invokestatic 15, 3) := by decide +kernel
theorem dX1_has_8 : decode cX1_has 8 = .ok (.ifCond .eq 28, 3) := by decide +kernel
theorem dX1_has_11 : decode cX1_has 11 = .ok (.aload_n 0, 1) := by decide +kernel
theorem dX1_has_12 : decode cX1_has 12 = .ok (.getfield 9, 3) := by decide +kernel
theorem dX1_has_15 : decode cX1_has 15 = .ok (.iload_n 1, 1) := by decide +kernel
theorem dX1_has_16 : decode cX1_has 16 = .ok (.bipush 64, 2) := by decide +kernel
theorem dX1_has_18 : decode cX1_has 18 = .ok (.idiv, 1) := by decide +kernel
theorem dX1_has_19 : decode cX1_has 19 = .ok (.laload, 1) := by decide +kernel
theorem dX1_has_20 : decode cX1_has 20 = .ok (.iload_n 1, 1) := by decide +kernel
theorem dX1_has_21 : decode cX1_has 21 = .ok (.bipush 64, 2) := by decide +kernel
theorem dX1_has_23 : decode cX1_has 23 = .ok (.irem, 1) := by decide +kernel
theorem dX1_has_24 : decode cX1_has 24 = .ok (.lushr, 1) := by decide +kernel
theorem dX1_has_25 : decode cX1_has 25 = .ok (.lconst 1, 1) := by decide +kernel
theorem dX1_has_26 : decode cX1_has 26 = .ok (.land, 1) := by decide +kernel
theorem dX1_has_27 : decode cX1_has 27 = .ok (.lconst 1, 1) := by decide +kernel
theorem dX1_has_28 : decode cX1_has 28 = .ok (.lcmp, 1) := by decide +kernel
theorem dX1_has_29 : decode cX1_has 29 = .ok (.ifCond .ne 7, 3) := by decide +kernel
theorem dX1_has_32 : decode cX1_has 32 = .ok (.iconst 1, 1) := by decide +kernel
theorem dX1_has_33 : decode cX1_has 33 = .ok (.goto 4, 3) := by decide +kernel
theorem dX1_has_36 : decode cX1_has 36 = .ok (.iconst 0, 1) := by decide +kernel
theorem dX1_has_37 : decode cX1_has 37 = .ok (.ireturn, 1) := by decide +kernel
theorem dX2_init_0 : decode cX2_init 0 = .ok (.aload_n 0, 1) := by decide +kernel
theorem dX2_init_1 : decode cX2_init 1 = .ok (.invokespecial 1, 3) := by decide +kernel
theorem dX2_init_4 : decode cX2_init 4 = .ok (.return_, 1) := by decide +kernel
theorem dX2_become_0 : decode cX2_become 0 = .ok (.aload_n 0, 1) := by decide +kernel
theorem dX2_become_1 : decode cX2_become 1 = .ok (.aload_n 1, 1) := by decide +kernel
theorem dX2_become_2 : decode cX2_become 2 = .ok (.getfield 7, 3) := by decide +kernel
theorem dX2_become_5 : decode cX2_become 5 = .ok (.putfield 7, 3) := by decide +kernel
theorem dX2_become_8 : decode cX2_become 8 = .ok (.aload_n 0, 1) := by decide +kernel
theorem dX2_become_9 : decode cX2_become 9 = .ok (.aload_n 1, 1) := by decide +kernel
theorem dX2_become_10 : decode cX2_become 10 = .ok (.getfield 13, 3) := by decide +kernel
theorem dX2_become_13 : decode cX2_become 13 = .ok (.putfield 13, 3) := by decide +kernel
theorem dX2_become_16 : decode cX2_become 16 = .ok (.aload_n 0, 1) := by decide +kernel
theorem dX2_become_17 : decode cX2_become 17 = .ok (.aload_n 1, 1) := by decide +kernel
theorem dX2_become_18 : decode cX2_become 18 = .ok (.getfield 16, 3) := by decide +kernel
theorem dX2_become_21 : decode cX2_become 21 = .ok (.putfield 16, 3) := by decide +kernel
theorem dX2_become_24 : decode cX2_become 24 = .ok (.aload_n 0, 1) := by decide +kernel
theorem dX2_become_25 : decode cX2_become 25 = .ok (.aload_n 1, 1) := by decide +kernel
theorem dX2_become_26 : decode cX2_become 26 = .ok (.getfield 19, 3) := by decide +kernel
theorem dX2_become_29 : decode cX2_become 29 = .ok (.putfield 19, 3) := by decide +kernel
theorem dX2_become_32 : decode cX2_become 32 = .ok (.aload_n 0, 1) := by decide +kernel
theorem dX2_become_33 : decode cX2_become 33 = .ok (.aload_n 1, 1) := by decide +kernel
theorem dX2_become_34 : decode cX2_become 34 = .ok (.getfield 22, 3) := by decide +kernel
theorem dX2_become_37 : decode cX2_become 37 = .ok (.putfield 22, 3) := by decide +kernel
theorem dX2_become_40 : decode cX2_become 40 = .ok (.return_, 1) := by decide +kernel
theorem dX2_isNamed_0 : decode cX2_isNamed 0 = .ok (.aload_n 0, 1) := by decide +kernel
theorem dX2_isNamed_1 : decode cX2_isNamed 1 = .ok (.getfield 7, 3) := by decide +kernel
theorem dX2_isNamed_4 : decode cX2_isNamed 4 = .ok (.iload_n 1, 1) := by decide +kernel
theorem dX2_isNamed_5 : decode cX2_isNamed 5 = .ok (.if_icmp .ne 15, 3) := by decide +kernel
theorem dX2_isNamed_8 : decode cX2_isNamed 8 = .ok (.aload_n 0, 1) := by decide +kernel
theorem dX2_isNamed_9 : decode cX2_isNamed 9 = .ok (.getfield 13, 3) := by decide +kernel
theorem dX2_isNamed_12 : decode cX2_isNamed 12 = .ok (.iload_n 2, 1) := by decide +kernel
theorem dX2_isNamed_13 : decode cX2_isNamed 13 = .ok (.if_icmp .ne 7, 3) := by decide +kernel
theorem dX2_isNamed_16 : decode cX2_isNamed 16 = .ok (.iconst 1, 1) := by decide +kernel
theorem dX2_isNamed_17 : decode cX2_isNamed 17 = .ok (.goto 4, 3) := by decide +kernel
theorem dX2_isNamed_20 : decode cX2_isNamed 20 = .ok (.iconst 0, 1) := by decide +kernel
theorem dX2_isNamed_21 : decode cX2_isNamed 21 = .ok (.ireturn, 1) := by decide +kernel
theorem dX3_init_0 : decode cX3_init 0 = .ok (.aload_n 0, 1) := by decide +kernel
theorem dX3_init_1 : decode cX3_init 1 = .ok (.invokespecial 3, 3) := by decide +kernel
theorem dX3_init_4 : decode cX3_init 4 = .ok (.aload_n 0, 1) := by decide +kernel
theorem dX3_init_5 : decode cX3_init 5 = .ok (.bipush 6, 2) := by decide +kernel
theorem dX3_init_7 : decode cX3_init 7 = .ok (.anewarray 11, 3) := by decide +kernel
theorem dX3_init_10 : decode cX3_init 10 = .ok (.putfield 13, 3) := by decide +kernel
theorem dX3_init_13 : decode cX3_init 13 = .ok (.iconst 0, 1) := by decide +kernel
theorem dX3_init_14 : decode cX3_init 14 = .ok (.istore_n 1, 1) := by decide +kernel
theorem dX3_init_15 : decode cX3_init 15 = .ok (.iload_n 1, 1) := by decide +kernel
theorem dX3_init_16 : decode cX3_init 16 = .ok (.bipush 6, 2) := by decide +kernel
theorem dX3_init_18 : decode cX3_init 18 = .ok (.if_icmp .ge 22, 3) := by decide +kernel
theorem dX3_init_21 : decode cX3_init 21 = .ok (.aload_n 0, 1) := by decide +kernel
theorem dX3_init_22 : decode cX3_init 22 = .ok (.getfield 13, 3) := by decide +kernel
theorem dX3_init_25 : decode cX3_init 25 = .ok (.iload_n 1, 1) := by decide +kernel
theorem dX3_init_26 : decode cX3_init 26 = .ok (.new 11, 3) := by decide +kernel
theorem dX3_init_29 : decode cX3_init 29 = .ok (.dup, 1) := by decide +kernel
theorem dX3_init_30 : decode cX3_init 30 = .ok (.invokespecial 17, 3) := by decide +kernel
theorem dX3_init_33 : decode cX3_init 33 = .ok (.aastore, 1) := by decide +kernel
theorem dX3_init_34 : decode cX3_init 34 = .ok (.iinc 1 1, 3) := by decide +kernel
theorem dX3_init_37 : decode cX3_init 37 = .ok (.goto (-22), 3) := by decide +kernel
theorem dX3_init_40 : decode cX3_init 40 = .ok (.return_, 1) := by decide +kernel
theorem dX3_behindNewest_0 : decode cX3_behindNewest 0 = .ok (.aload_n 0, 1) := by decide +kernel
theorem dX3_behindNewest_1 : decode cX3_behindNewest 1 = .ok (.getfield 13, 3) := by decide +kernel
theorem dX3_behindNewest_4 : decode cX3_behindNewest 4 = .ok (.aload_n 0, 1) := by decide +kernel
theorem dX3_behindNewest_5 : decode cX3_behindNewest 5 = .ok (.getfield 18, 3) := by decide +kernel
theorem dX3_behindNewest_8 : decode cX3_behindNewest 8 = .ok (.aload_n 0, 1) := by decide +kernel
theorem dX3_behindNewest_9 : decode cX3_behindNewest 9 = .ok (.getfield 22, 3) := by decide +kernel
theorem dX3_behindNewest_12 : decode cX3_behindNewest 12 = .ok (.iadd, 1) := by decide +kernel
theorem dX3_behindNewest_13 : decode cX3_behindNewest 13 = .ok (.bipush 6, 2) := by decide +kernel
theorem dX3_behindNewest_15 : decode cX3_behindNewest 15 = .ok (.irem, 1) := by decide +kernel
theorem dX3_behindNewest_16 : decode cX3_behindNewest 16 = .ok (.aaload, 1) := by decide +kernel
theorem dX3_behindNewest_17 : decode cX3_behindNewest 17 = .ok (.areturn, 1) := by decide +kernel
theorem dX3_draft_0 : decode cX3_draft 0 = .ok (.aload_n 0, 1) := by decide +kernel
theorem dX3_draft_1 : decode cX3_draft 1 = .ok (.invokevirtual 25, 3) := by decide +kernel
theorem dX3_draft_4 : decode cX3_draft 4 = .ok (.aload_n 1, 1) := by decide +kernel
theorem dX3_draft_5 : decode cX3_draft 5 = .ok (.invokevirtual 29, 3) := by decide +kernel
theorem dX3_draft_8 : decode cX3_draft 8 = .ok (.return_, 1) := by decide +kernel
theorem dX3_restoreDraft_0 : decode cX3_restoreDraft 0 = .ok (.aload_n 1, 1) := by decide +kernel
theorem dX3_restoreDraft_1 : decode cX3_restoreDraft 1 = .ok (.aload_n 0, 1) := by decide +kernel
theorem dX3_restoreDraft_2 : decode cX3_restoreDraft 2 = .ok (.invokevirtual 25, 3) := by decide +kernel
theorem dX3_restoreDraft_5 : decode cX3_restoreDraft 5 = .ok (.invokevirtual 29, 3) := by decide +kernel
theorem dX3_restoreDraft_8 : decode cX3_restoreDraft 8 = .ok (.return_, 1) := by decide +kernel
theorem dX3_keepDraft_0 : decode cX3_keepDraft 0 = .ok (.aload_n 0, 1) := by decide +kernel
theorem dX3_keepDraft_1 : decode cX3_keepDraft 1 = .ok (.getfield 22, 3) := by decide +kernel
theorem dX3_keepDraft_4 : decode cX3_keepDraft 4 = .ok (.iconst 5, 1) := by decide +kernel
theorem dX3_keepDraft_5 : decode cX3_keepDraft 5 = .ok (.if_icmp .lt 19, 3) := by decide +kernel
theorem dX3_keepDraft_8 : decode cX3_keepDraft 8 = .ok (.aload_n 0, 1) := by decide +kernel
theorem dX3_keepDraft_9 : decode cX3_keepDraft 9 = .ok (.aload_n 0, 1) := by decide +kernel
theorem dX3_keepDraft_10 : decode cX3_keepDraft 10 = .ok (.getfield 18, 3) := by decide +kernel
theorem dX3_keepDraft_13 : decode cX3_keepDraft 13 = .ok (.iconst 1, 1) := by decide +kernel
theorem dX3_keepDraft_14 : decode cX3_keepDraft 14 = .ok (.iadd, 1) := by decide +kernel
theorem dX3_keepDraft_15 : decode cX3_keepDraft 15 = .ok (.bipush 6, 2) := by decide +kernel
theorem dX3_keepDraft_17 : decode cX3_keepDraft 17 = .ok (.irem, 1) := by decide +kernel
theorem dX3_keepDraft_18 : decode cX3_keepDraft 18 = .ok (.putfield 18, 3) := by decide +kernel
theorem dX3_keepDraft_21 : decode cX3_keepDraft 21 = .ok (.goto 13, 3) := by decide +kernel
theorem dX3_keepDraft_24 : decode cX3_keepDraft 24 = .ok (.aload_n 0, 1) := by decide +kernel
theorem dX3_keepDraft_25 : decode cX3_keepDraft 25 = .ok (.dup, 1) := by decide +kernel
theorem dX3_keepDraft_26 : decode cX3_keepDraft 26 = .ok (.getfield 22, 3) := by decide +kernel
theorem dX3_keepDraft_29 : decode cX3_keepDraft 29 = .ok (.iconst 1, 1) := by decide +kernel
theorem dX3_keepDraft_30 : decode cX3_keepDraft 30 = .ok (.iadd, 1) := by decide +kernel
theorem dX3_keepDraft_31 : decode cX3_keepDraft 31 = .ok (.putfield 22, 3) := by decide +kernel
theorem dX3_keepDraft_34 : decode cX3_keepDraft 34 = .ok (.return_, 1) := by decide +kernel
theorem dX3_goBack_0 : decode cX3_goBack 0 = .ok (.aload_n 0, 1) := by decide +kernel
theorem dX3_goBack_1 : decode cX3_goBack 1 = .ok (.getfield 22, 3) := by decide +kernel
theorem dX3_goBack_4 : decode cX3_goBack 4 = .ok (.ifCond .ne 6, 3) := by decide +kernel
theorem dX3_goBack_7 : decode cX3_goBack 7 = .ok (.bipush (-3), 2) := by decide +kernel
theorem dX3_goBack_9 : decode cX3_goBack 9 = .ok (.ireturn, 1) := by decide +kernel
theorem dX3_goBack_10 : decode cX3_goBack 10 = .ok (.aload_n 0, 1) := by decide +kernel
theorem dX3_goBack_11 : decode cX3_goBack 11 = .ok (.dup, 1) := by decide +kernel
theorem dX3_goBack_12 : decode cX3_goBack 12 = .ok (.getfield 22, 3) := by decide +kernel
theorem dX3_goBack_15 : decode cX3_goBack 15 = .ok (.iconst 1, 1) := by decide +kernel
theorem dX3_goBack_16 : decode cX3_goBack 16 = .ok (.isub, 1) := by decide +kernel
theorem dX3_goBack_17 : decode cX3_goBack 17 = .ok (.putfield 22, 3) := by decide +kernel
theorem dX3_goBack_20 : decode cX3_goBack 20 = .ok (.aload_n 0, 1) := by decide +kernel
theorem dX3_goBack_21 : decode cX3_goBack 21 = .ok (.aload_n 1, 1) := by decide +kernel
theorem dX3_goBack_22 : decode cX3_goBack 22 = .ok (.invokevirtual 33, 3) := by decide +kernel
theorem dX3_goBack_25 : decode cX3_goBack 25 = .ok (.aload_n 0, 1) := by decide +kernel
theorem dX3_goBack_26 : decode cX3_goBack 26 = .ok (.getfield 22, 3) := by decide +kernel
theorem dX3_goBack_29 : decode cX3_goBack 29 = .ok (.ireturn, 1) := by decide +kernel
theorem dX4_init_0 : decode cX4_init 0 = .ok (.aload_n 0, 1) := by decide +kernel
theorem dX4_init_1 : decode cX4_init 1 = .ok (.invokespecial 3, 3) := by decide +kernel
theorem dX4_init_4 : decode cX4_init 4 = .ok (.aload_n 0, 1) := by decide +kernel
theorem dX4_init_5 : decode cX4_init 5 = .ok (.iconst 5, 1) := by decide +kernel
theorem dX4_init_6 : decode cX4_init 6 = .ok (.anewarray 9, 3) := by decide +kernel
theorem dX4_init_9 : decode cX4_init 9 = .ok (.putfield 11, 3) := by decide +kernel
theorem dX4_init_12 : decode cX4_init 12 = .ok (.iconst 0, 1) := by decide +kernel
theorem dX4_init_13 : decode cX4_init 13 = .ok (.istore_n 1, 1) := by decide +kernel
theorem dX4_init_14 : decode cX4_init 14 = .ok (.iload_n 1, 1) := by decide +kernel
theorem dX4_init_15 : decode cX4_init 15 = .ok (.iconst 5, 1) := by decide +kernel
theorem dX4_init_16 : decode cX4_init 16 = .ok (.if_icmp .ge 22, 3) := by decide +kernel
theorem dX4_init_19 : decode cX4_init 19 = .ok (.aload_n 0, 1) := by decide +kernel
theorem dX4_init_20 : decode cX4_init 20 = .ok (.getfield 11, 3) := by decide +kernel
theorem dX4_init_23 : decode cX4_init 23 = .ok (.iload_n 1, 1) := by decide +kernel
theorem dX4_init_24 : decode cX4_init 24 = .ok (.new 9, 3) := by decide +kernel
theorem dX4_init_27 : decode cX4_init 27 = .ok (.dup, 1) := by decide +kernel
theorem dX4_init_28 : decode cX4_init 28 = .ok (.invokespecial 17, 3) := by decide +kernel
theorem dX4_init_31 : decode cX4_init 31 = .ok (.aastore, 1) := by decide +kernel
theorem dX4_init_32 : decode cX4_init 32 = .ok (.iinc 1 1, 3) := by decide +kernel
theorem dX4_init_35 : decode cX4_init 35 = .ok (.goto (-21), 3) := by decide +kernel
theorem dX4_init_38 : decode cX4_init 38 = .ok (.aload_n 0, 1) := by decide +kernel
theorem dX4_init_39 : decode cX4_init 39 = .ok (.new 18, 3) := by decide +kernel
theorem dX4_init_42 : decode cX4_init 42 = .ok (.dup, 1) := by decide +kernel
theorem dX4_init_43 : decode cX4_init 43 = .ok (.invokespecial 20, 3) := by decide +kernel
theorem dX4_init_46 : decode cX4_init 46 = .ok (.putfield 21, 3) := by decide +kernel
theorem dX4_init_49 : decode cX4_init 49 = .ok (.return_, 1) := by decide +kernel
theorem dX4_begin_0 : decode cX4_begin 0 = .ok (.aload_n 0, 1) := by decide +kernel
theorem dX4_begin_1 : decode cX4_begin 1 = .ok (.iconst 0, 1) := by decide +kernel
theorem dX4_begin_2 : decode cX4_begin 2 = .ok (.putfield 25, 3) := by decide +kernel
theorem dX4_begin_5 : decode cX4_begin 5 = .ok (.aload_n 0, 1) := by decide +kernel
theorem dX4_begin_6 : decode cX4_begin 6 = .ok (.getfield 21, 3) := by decide +kernel
theorem dX4_begin_9 : decode cX4_begin 9 = .ok (.iconst 0, 1) := by decide +kernel
theorem dX4_begin_10 : decode cX4_begin 10 = .ok (.putfield 29, 3) := by decide +kernel
theorem dX4_begin_13 : decode cX4_begin 13 = .ok (.aload_n 0, 1) := by decide +kernel
theorem dX4_begin_14 : decode cX4_begin 14 = .ok (.iconst 1, 1) := by decide +kernel
theorem dX4_begin_15 : decode cX4_begin 15 = .ok (.putfield 32, 3) := by decide +kernel
theorem dX4_begin_18 : decode cX4_begin 18 = .ok (.aload_n 0, 1) := by decide +kernel
theorem dX4_begin_19 : decode cX4_begin 19 = .ok (.iconst (-1), 1) := by decide +kernel
theorem dX4_begin_20 : decode cX4_begin 20 = .ok (.putfield 36, 3) := by decide +kernel
theorem dX4_begin_23 : decode cX4_begin 23 = .ok (.return_, 1) := by decide +kernel
theorem dX4_become_0 : decode cX4_become 0 = .ok (.aload_n 0, 1) := by decide +kernel
theorem dX4_become_1 : decode cX4_become 1 = .ok (.aload_n 1, 1) := by decide +kernel
theorem dX4_become_2 : decode cX4_become 2 = .ok (.getfield 25, 3) := by decide +kernel
theorem dX4_become_5 : decode cX4_become 5 = .ok (.putfield 25, 3) := by decide +kernel
theorem dX4_become_8 : decode cX4_become 8 = .ok (.iconst 0, 1) := by decide +kernel
theorem dX4_become_9 : decode cX4_become 9 = .ok (.istore_n 2, 1) := by decide +kernel
theorem dX4_become_10 : decode cX4_become 10 = .ok (.iload_n 2, 1) := by decide +kernel
theorem dX4_become_11 : decode cX4_become 11 = .ok (.aload_n 0, 1) := by decide +kernel
theorem dX4_become_12 : decode cX4_become 12 = .ok (.getfield 25, 3) := by decide +kernel
theorem dX4_become_15 : decode cX4_become 15 = .ok (.if_icmp .ge 24, 3) := by decide +kernel
theorem dX4_become_18 : decode cX4_become 18 = .ok (.aload_n 0, 1) := by decide +kernel
theorem dX4_become_19 : decode cX4_become 19 = .ok (.getfield 11, 3) := by decide +kernel
theorem dX4_become_22 : decode cX4_become 22 = .ok (.iload_n 2, 1) := by decide +kernel
theorem dX4_become_23 : decode cX4_become 23 = .ok (.aaload, 1) := by decide +kernel
theorem dX4_become_24 : decode cX4_become 24 = .ok (.aload_n 1, 1) := by decide +kernel
theorem dX4_become_25 : decode cX4_become 25 = .ok (.getfield 11, 3) := by decide +kernel
theorem dX4_become_28 : decode cX4_become 28 = .ok (.iload_n 2, 1) := by decide +kernel
theorem dX4_become_29 : decode cX4_become 29 = .ok (.aaload, 1) := by decide +kernel
theorem dX4_become_30 : decode cX4_become 30 = .ok (.invokevirtual 39, 3) := by decide +kernel
theorem dX4_become_33 : decode cX4_become 33 = .ok (.iinc 2 1, 3) := by decide +kernel
theorem dX4_become_36 : decode cX4_become 36 = .ok (.goto (-26), 3) := by decide +kernel
theorem dX4_become_39 : decode cX4_become 39 = .ok (.aload_n 0, 1) := by decide +kernel
theorem dX4_become_40 : decode cX4_become 40 = .ok (.getfield 21, 3) := by decide +kernel
theorem dX4_become_43 : decode cX4_become 43 = .ok (.aload_n 1, 1) := by decide +kernel
theorem dX4_become_44 : decode cX4_become 44 = .ok (.getfield 21, 3) := by decide +kernel
theorem dX4_become_47 : decode cX4_become 47 = .ok (.invokevirtual 43, 3) := by decide +kernel
theorem dX4_become_50 : decode cX4_become 50 = .ok (.aload_n 0, 1) := by decide +kernel
theorem dX4_become_51 : decode cX4_become 51 = .ok (.aload_n 1, 1) := by decide +kernel
theorem dX4_become_52 : decode cX4_become 52 = .ok (.getfield 32, 3) := by decide +kernel
theorem dX4_become_55 : decode cX4_become 55 = .ok (.putfield 32, 3) := by decide +kernel
theorem dX4_become_58 : decode cX4_become 58 = .ok (.aload_n 0, 1) := by decide +kernel
theorem dX4_become_59 : decode cX4_become 59 = .ok (.aload_n 1, 1) := by decide +kernel
theorem dX4_become_60 : decode cX4_become 60 = .ok (.getfield 36, 3) := by decide +kernel
theorem dX4_become_63 : decode cX4_become 63 = .ok (.putfield 36, 3) := by decide +kernel
theorem dX4_become_66 : decode cX4_become 66 = .ok (.return_, 1) := by decide +kernel
theorem dX4_add_0 : decode cX4_add 0 = .ok (.aload_n 0, 1) := by decide +kernel
theorem dX4_add_1 : decode cX4_add 1 = .ok (.getfield 11, 3) := by decide +kernel
theorem dX4_add_4 : decode cX4_add 4 = .ok (.aload_n 0, 1) := by decide +kernel
theorem dX4_add_5 : decode cX4_add 5 = .ok (.getfield 25, 3) := by decide +kernel
theorem dX4_add_8 : decode cX4_add 8 = .ok (.aaload, 1) := by decide +kernel
theorem dX4_add_9 : decode cX4_add 9 = .ok (.astore 5, 2) := by decide +kernel
theorem dX4_add_11 : decode cX4_add 11 = .ok (.aload_n 0, 1) := by decide +kernel
theorem dX4_add_12 : decode cX4_add 12 = .ok (.dup, 1) := by decide +kernel
theorem dX4_add_13 : decode cX4_add 13 = .ok (.getfield 25, 3) := by decide +kernel
theorem dX4_add_16 : decode cX4_add 16 = .ok (.iconst 1, 1) := by decide +kernel
theorem dX4_add_17 : decode cX4_add 17 = .ok (.iadd, 1) := by decide +kernel
theorem dX4_add_18 : decode cX4_add 18 = .ok (.putfield 25, 3) := by decide +kernel
theorem dX4_add_21 : decode cX4_add 21 = .ok (.aload 5, 2) := by decide +kernel
theorem dX4_add_23 : decode cX4_add 23 = .ok (.iload_n 1, 1) := by decide +kernel
theorem dX4_add_24 : decode cX4_add 24 = .ok (.putfield 46, 3) := by decide +kernel
theorem dX4_add_27 : decode cX4_add 27 = .ok (.aload 5, 2) := by decide +kernel
theorem dX4_add_29 : decode cX4_add 29 = .ok (.iload_n 2, 1) := by decide +kernel
theorem dX4_add_30 : decode cX4_add 30 = .ok (.putfield 49, 3) := by decide +kernel
theorem dX4_add_33 : decode cX4_add 33 = .ok (.aload 5, 2) := by decide +kernel
theorem dX4_add_35 : decode cX4_add 35 = .ok (.iload_n 3, 1) := by decide +kernel
theorem dX4_add_36 : decode cX4_add 36 = .ok (.putfield 52, 3) := by decide +kernel
theorem dX4_add_39 : decode cX4_add 39 = .ok (.aload 5, 2) := by decide +kernel
theorem dX4_add_41 : decode cX4_add 41 = .ok (.iload 4, 2) := by decide +kernel
theorem dX4_add_43 : decode cX4_add 43 = .ok (.putfield 55, 3) := by decide +kernel
theorem dX4_add_46 : decode cX4_add 46 = .ok (.aload 5, 2) := by decide +kernel
theorem dX4_add_48 : decode cX4_add 48 = .ok (.iconst 0, 1) := by decide +kernel
theorem dX4_add_49 : decode cX4_add 49 = .ok (.putfield 58, 3) := by decide +kernel
theorem dX4_add_52 : decode cX4_add 52 = .ok (.aload 5, 2) := by decide +kernel
theorem dX4_add_54 : decode cX4_add 54 = .ok (.areturn, 1) := by decide +kernel
theorem dX4_takeOut_0 : decode cX4_takeOut 0 = .ok (.aload_n 0, 1) := by decide +kernel
theorem dX4_takeOut_1 : decode cX4_takeOut 1 = .ok (.getfield 11, 3) := by decide +kernel
theorem dX4_takeOut_4 : decode cX4_takeOut 4 = .ok (.iload_n 1, 1) := by decide +kernel
theorem dX4_takeOut_5 : decode cX4_takeOut 5 = .ok (.aaload, 1) := by decide +kernel
theorem dX4_takeOut_6 : decode cX4_takeOut 6 = .ok (.astore_n 2, 1) := by decide +kernel
theorem dX4_takeOut_7 : decode cX4_takeOut 7 = .ok (.iload_n 1, 1) := by decide +kernel
theorem dX4_takeOut_8 : decode cX4_takeOut 8 = .ok (.istore_n 3, 1) := by decide +kernel
theorem dX4_takeOut_9 : decode cX4_takeOut 9 = .ok (.iload_n 3, 1) := by decide +kernel
theorem dX4_takeOut_10 : decode cX4_takeOut 10 = .ok (.aload_n 0, 1) := by decide +kernel
theorem dX4_takeOut_11 : decode cX4_takeOut 11 = .ok (.getfield 25, 3) := by decide +kernel
theorem dX4_takeOut_14 : decode cX4_takeOut 14 = .ok (.iconst 1, 1) := by decide +kernel
theorem dX4_takeOut_15 : decode cX4_takeOut 15 = .ok (.isub, 1) := by decide +kernel
theorem dX4_takeOut_16 : decode cX4_takeOut 16 = .ok (.if_icmp .ge 23, 3) := by decide +kernel
theorem dX4_takeOut_19 : decode cX4_takeOut 19 = .ok (.aload_n 0, 1) := by decide +kernel
theorem dX4_takeOut_20 : decode cX4_takeOut 20 = .ok (.getfield 11, 3) := by decide +kernel
theorem dX4_takeOut_23 : decode cX4_takeOut 23 = .ok (.iload_n 3, 1) := by decide +kernel
theorem dX4_takeOut_24 : decode cX4_takeOut 24 = .ok (.aload_n 0, 1) := by decide +kernel
theorem dX4_takeOut_25 : decode cX4_takeOut 25 = .ok (.getfield 11, 3) := by decide +kernel
theorem dX4_takeOut_28 : decode cX4_takeOut 28 = .ok (.iload_n 3, 1) := by decide +kernel
theorem dX4_takeOut_29 : decode cX4_takeOut 29 = .ok (.iconst 1, 1) := by decide +kernel
theorem dX4_takeOut_30 : decode cX4_takeOut 30 = .ok (.iadd, 1) := by decide +kernel
theorem dX4_takeOut_31 : decode cX4_takeOut 31 = .ok (.aaload, 1) := by decide +kernel
theorem dX4_takeOut_32 : decode cX4_takeOut 32 = .ok (.aastore, 1) := by decide +kernel
theorem dX4_takeOut_33 : decode cX4_takeOut 33 = .ok (.iinc 3 1, 3) := by decide +kernel
theorem dX4_takeOut_36 : decode cX4_takeOut 36 = .ok (.goto (-27), 3) := by decide +kernel
theorem dX4_takeOut_39 : decode cX4_takeOut 39 = .ok (.aload_n 0, 1) := by decide +kernel
theorem dX4_takeOut_40 : decode cX4_takeOut 40 = .ok (.dup, 1) := by decide +kernel
theorem dX4_takeOut_41 : decode cX4_takeOut 41 = .ok (.getfield 25, 3) := by decide +kernel
theorem dX4_takeOut_44 : decode cX4_takeOut 44 = .ok (.iconst 1, 1) := by decide +kernel
theorem dX4_takeOut_45 : decode cX4_takeOut 45 = .ok (.isub, 1) := by decide +kernel
theorem dX4_takeOut_46 : decode cX4_takeOut 46 = .ok (.putfield 25, 3) := by decide +kernel
theorem dX4_takeOut_49 : decode cX4_takeOut 49 = .ok (.aload_n 0, 1) := by decide +kernel
theorem dX4_takeOut_50 : decode cX4_takeOut 50 = .ok (.getfield 11, 3) := by decide +kernel
theorem dX4_takeOut_53 : decode cX4_takeOut 53 = .ok (.aload_n 0, 1) := by decide +kernel
theorem dX4_takeOut_54 : decode cX4_takeOut 54 = .ok (.getfield 25, 3) := by decide +kernel
theorem dX4_takeOut_57 : decode cX4_takeOut 57 = .ok (.aload_n 2, 1) := by decide +kernel
theorem dX4_takeOut_58 : decode cX4_takeOut 58 = .ok (.aastore, 1) := by decide +kernel
theorem dX4_takeOut_59 : decode cX4_takeOut 59 = .ok (.aload_n 2, 1) := by decide +kernel
theorem dX4_takeOut_60 : decode cX4_takeOut 60 = .ok (.areturn, 1) := by decide +kernel
theorem dX4_hasNamed_0 : decode cX4_hasNamed 0 = .ok (.iconst 0, 1) := by decide +kernel
theorem dX4_hasNamed_1 : decode cX4_hasNamed 1 = .ok (.istore_n 3, 1) := by decide +kernel
theorem dX4_hasNamed_2 : decode cX4_hasNamed 2 = .ok (.iload_n 3, 1) := by decide +kernel
theorem dX4_hasNamed_3 : decode cX4_hasNamed 3 = .ok (.aload_n 0, 1) := by decide +kernel
theorem dX4_hasNamed_4 : decode cX4_hasNamed 4 = .ok (.getfield 25, 3) := by decide +kernel
theorem dX4_hasNamed_7 : decode cX4_hasNamed 7 = .ok (.if_icmp .ge 25, 3) := by decide +kernel
theorem dX4_hasNamed_10 : decode cX4_hasNamed 10 = .ok (.aload_n 0, 1) := by decide +kernel
theorem dX4_hasNamed_11 : decode cX4_hasNamed 11 = .ok (.getfield 11, 3) := by decide +kernel
theorem dX4_hasNamed_14 : decode cX4_hasNamed 14 = .ok (.iload_n 3, 1) := by decide +kernel
theorem dX4_hasNamed_15 : decode cX4_hasNamed 15 = .ok (.aaload, 1) := by decide +kernel
theorem dX4_hasNamed_16 : decode cX4_hasNamed 16 = .ok (.iload_n 1, 1) := by decide +kernel
theorem dX4_hasNamed_17 : decode cX4_hasNamed 17 = .ok (.iload_n 2, 1) := by decide +kernel
theorem dX4_hasNamed_18 : decode cX4_hasNamed 18 = .ok (.invokevirtual 61, 3) := by decide +kernel
theorem dX4_hasNamed_21 : decode cX4_hasNamed 21 = .ok (.ifCond .eq 5, 3) := by decide +kernel
theorem dX4_hasNamed_24 : decode cX4_hasNamed 24 = .ok (.iconst 1, 1) := by decide +kernel
theorem dX4_hasNamed_25 : decode cX4_hasNamed 25 = .ok (.ireturn, 1) := by decide +kernel
theorem dX4_hasNamed_26 : decode cX4_hasNamed 26 = .ok (.iinc 3 1, 3) := by decide +kernel
theorem dX4_hasNamed_29 : decode cX4_hasNamed 29 = .ok (.goto (-27), 3) := by decide +kernel
theorem dX4_hasNamed_32 : decode cX4_hasNamed 32 = .ok (.iconst 0, 1) := by decide +kernel
theorem dX4_hasNamed_33 : decode cX4_hasNamed 33 = .ok (.ireturn, 1) := by decide +kernel
theorem dX4_has_0 : decode cX4_has 0 = .ok (.iconst 0, 1) := by decide +kernel
theorem dX4_has_1 : decode cX4_has 1 = .ok (.istore 4, 2) := by decide +kernel
theorem dX4_has_3 : decode cX4_has 3 = .ok (.iload 4, 2) := by decide +kernel
theorem dX4_has_5 : decode cX4_has 5 = .ok (.aload_n 0, 1) := by decide +kernel
theorem dX4_has_6 : decode cX4_has 6 = .ok (.getfield 25, 3) := by decide +kernel
theorem dX4_has_9 : decode cX4_has 9 = .ok (.if_icmp .ge 40, 3) := by decide +kernel
theorem dX4_has_12 : decode cX4_has 12 = .ok (.aload_n 0, 1) := by decide +kernel
theorem dX4_has_13 : decode cX4_has 13 = .ok (.getfield 11, 3) := by decide +kernel
theorem dX4_has_16 : decode cX4_has 16 = .ok (.iload 4, 2) := by decide +kernel
theorem dX4_has_18 : decode cX4_has 18 = .ok (.aaload, 1) := by decide +kernel
theorem dX4_has_19 : decode cX4_has 19 = .ok (.iload_n 1, 1) := by decide +kernel
theorem dX4_has_20 : decode cX4_has 20 = .ok (.iload_n 2, 1) := by decide +kernel
theorem dX4_has_21 : decode cX4_has 21 = .ok (.invokevirtual 61, 3) := by decide +kernel
theorem dX4_has_24 : decode cX4_has 24 = .ok (.ifCond .eq 19, 3) := by decide +kernel
theorem dX4_has_27 : decode cX4_has 27 = .ok (.aload_n 0, 1) := by decide +kernel
theorem dX4_has_28 : decode cX4_has 28 = .ok (.getfield 11, 3) := by decide +kernel
theorem dX4_has_31 : decode cX4_has 31 = .ok (.iload 4, 2) := by decide +kernel
theorem dX4_has_33 : decode cX4_has 33 = .ok (.aaload, 1) := by decide +kernel
theorem dX4_has_34 : decode cX4_has 34 = .ok (.getfield 52, 3) := by decide +kernel
theorem dX4_has_37 : decode cX4_has 37 = .ok (.iload_n 3, 1) := by decide +kernel
theorem dX4_has_38 : decode cX4_has 38 = .ok (.if_icmp .ne 5, 3) := by decide +kernel
theorem dX4_has_41 : decode cX4_has 41 = .ok (.iconst 1, 1) := by decide +kernel
theorem dX4_has_42 : decode cX4_has 42 = .ok (.ireturn, 1) := by decide +kernel
theorem dX4_has_43 : decode cX4_has 43 = .ok (.iinc 4 1, 3) := by decide +kernel
theorem dX4_has_46 : decode cX4_has 46 = .ok (.goto (-43), 3) := by decide +kernel
theorem dX4_has_49 : decode cX4_has 49 = .ok (.iconst 0, 1) := by decide +kernel
theorem dX4_has_50 : decode cX4_has 50 = .ok (.ireturn, 1) := by decide +kernel
theorem dX4_owns_0 : decode cX4_owns 0 = .ok (.iconst 0, 1) := by decide +kernel
theorem dX4_owns_1 : decode cX4_owns 1 = .ok (.istore 4, 2) := by decide +kernel
theorem dX4_owns_3 : decode cX4_owns 3 = .ok (.iload 4, 2) := by decide +kernel
theorem dX4_owns_5 : decode cX4_owns 5 = .ok (.aload_n 0, 1) := by decide +kernel
theorem dX4_owns_6 : decode cX4_owns 6 = .ok (.getfield 25, 3) := by decide +kernel
theorem dX4_owns_9 : decode cX4_owns 9 = .ok (.if_icmp .ge 47, 3) := by decide +kernel
theorem dX4_owns_12 : decode cX4_owns 12 = .ok (.aload_n 0, 1) := by decide +kernel
theorem dX4_owns_13 : decode cX4_owns 13 = .ok (.getfield 11, 3) := by decide +kernel
theorem dX4_owns_16 : decode cX4_owns 16 = .ok (.iload 4, 2) := by decide +kernel
theorem dX4_owns_18 : decode cX4_owns 18 = .ok (.aaload, 1) := by decide +kernel
theorem dX4_owns_19 : decode cX4_owns 19 = .ok (.astore 5, 2) := by decide +kernel
theorem dX4_owns_21 : decode cX4_owns 21 = .ok (.aload 5, 2) := by decide +kernel
theorem dX4_owns_23 : decode cX4_owns 23 = .ok (.invokevirtual 65, 3) := by decide +kernel
theorem dX4_owns_26 : decode cX4_owns 26 = .ok (.ifCond .eq 24, 3) := by decide +kernel
theorem dX4_owns_29 : decode cX4_owns 29 = .ok (.aload 5, 2) := by decide +kernel
theorem dX4_owns_31 : decode cX4_owns 31 = .ok (.iload_n 1, 1) := by decide +kernel
theorem dX4_owns_32 : decode cX4_owns 32 = .ok (.iload_n 2, 1) := by decide +kernel
theorem dX4_owns_33 : decode cX4_owns 33 = .ok (.invokevirtual 61, 3) := by decide +kernel
theorem dX4_owns_36 : decode cX4_owns 36 = .ok (.ifCond .eq 14, 3) := by decide +kernel
theorem dX4_owns_39 : decode cX4_owns 39 = .ok (.aload 5, 2) := by decide +kernel
theorem dX4_owns_41 : decode cX4_owns 41 = .ok (.getfield 52, 3) := by decide +kernel
theorem dX4_owns_44 : decode cX4_owns 44 = .ok (.iload_n 3, 1) := by decide +kernel
theorem dX4_owns_45 : decode cX4_owns 45 = .ok (.if_icmp .ne 5, 3) := by decide +kernel
theorem dX4_owns_48 : decode cX4_owns 48 = .ok (.iconst 1, 1) := by decide +kernel
theorem dX4_owns_49 : decode cX4_owns 49 = .ok (.ireturn, 1) := by decide +kernel
theorem dX4_owns_50 : decode cX4_owns 50 = .ok (.iinc 4 1, 3) := by decide +kernel
theorem dX4_owns_53 : decode cX4_owns 53 = .ok (.goto (-50), 3) := by decide +kernel
theorem dX4_owns_56 : decode cX4_owns 56 = .ok (.iconst 0, 1) := by decide +kernel
theorem dX4_owns_57 : decode cX4_owns 57 = .ok (.ireturn, 1) := by decide +kernel
theorem dX4_ownedCount_0 : decode cX4_ownedCount 0 = .ok (.iconst 0, 1) := by decide +kernel
theorem dX4_ownedCount_1 : decode cX4_ownedCount 1 = .ok (.istore_n 1, 1) := by decide +kernel
theorem dX4_ownedCount_2 : decode cX4_ownedCount 2 = .ok (.iconst 0, 1) := by decide +kernel
theorem dX4_ownedCount_3 : decode cX4_ownedCount 3 = .ok (.istore_n 2, 1) := by decide +kernel
theorem dX4_ownedCount_4 : decode cX4_ownedCount 4 = .ok (.iload_n 2, 1) := by decide +kernel
theorem dX4_ownedCount_5 : decode cX4_ownedCount 5 = .ok (.aload_n 0, 1) := by decide +kernel
theorem dX4_ownedCount_6 : decode cX4_ownedCount 6 = .ok (.getfield 25, 3) := by decide +kernel
theorem dX4_ownedCount_9 : decode cX4_ownedCount 9 = .ok (.if_icmp .ge 24, 3) := by decide +kernel
theorem dX4_ownedCount_12 : decode cX4_ownedCount 12 = .ok (.iload_n 1, 1) := by decide +kernel
theorem dX4_ownedCount_13 : decode cX4_ownedCount 13 = .ok (.aload_n 0, 1) := by decide +kernel
theorem dX4_ownedCount_14 : decode cX4_ownedCount 14 = .ok (.getfield 11, 3) := by decide +kernel
theorem dX4_ownedCount_17 : decode cX4_ownedCount 17 = .ok (.iload_n 2, 1) := by decide +kernel
theorem dX4_ownedCount_18 : decode cX4_ownedCount 18 = .ok (.aaload, 1) := by decide +kernel
theorem dX4_ownedCount_19 : decode cX4_ownedCount 19 = .ok (.invokevirtual 65, 3) := by decide +kernel
theorem dX4_ownedCount_22 : decode cX4_ownedCount 22 = .ok (.invokestatic 69, 3) := by decide +kernel
theorem dX4_ownedCount_25 : decode cX4_ownedCount 25 = .ok (.iadd, 1) := by decide +kernel
theorem dX4_ownedCount_26 : decode cX4_ownedCount 26 = .ok (.istore_n 1, 1) := by decide +kernel
theorem dX4_ownedCount_27 : decode cX4_ownedCount 27 = .ok (.iinc 2 1, 3) := by decide +kernel
theorem dX4_ownedCount_30 : decode cX4_ownedCount 30 = .ok (.goto (-26), 3) := by decide +kernel
theorem dX4_ownedCount_33 : decode cX4_ownedCount 33 = .ok (.iload_n 1, 1) := by decide +kernel
theorem dX4_ownedCount_34 : decode cX4_ownedCount 34 = .ok (.ireturn, 1) := by decide +kernel
theorem dX4_firstSole_0 : decode cX4_firstSole 0 = .ok (.iconst 0, 1) := by decide +kernel
theorem dX4_firstSole_1 : decode cX4_firstSole 1 = .ok (.istore_n 3, 1) := by decide +kernel
theorem dX4_firstSole_2 : decode cX4_firstSole 2 = .ok (.iload_n 3, 1) := by decide +kernel
theorem dX4_firstSole_3 : decode cX4_firstSole 3 = .ok (.aload_n 0, 1) := by decide +kernel
theorem dX4_firstSole_4 : decode cX4_firstSole 4 = .ok (.getfield 25, 3) := by decide +kernel
theorem dX4_firstSole_7 : decode cX4_firstSole 7 = .ok (.if_icmp .ge 45, 3) := by decide +kernel
theorem dX4_firstSole_10 : decode cX4_firstSole 10 = .ok (.aload_n 0, 1) := by decide +kernel
theorem dX4_firstSole_11 : decode cX4_firstSole 11 = .ok (.getfield 11, 3) := by decide +kernel
theorem dX4_firstSole_14 : decode cX4_firstSole 14 = .ok (.iload_n 3, 1) := by decide +kernel
theorem dX4_firstSole_15 : decode cX4_firstSole 15 = .ok (.aaload, 1) := by decide +kernel
theorem dX4_firstSole_16 : decode cX4_firstSole 16 = .ok (.astore 4, 2) := by decide +kernel
theorem dX4_firstSole_18 : decode cX4_firstSole 18 = .ok (.aload 4, 2) := by decide +kernel
theorem dX4_firstSole_20 : decode cX4_firstSole 20 = .ok (.getfield 73, 3) := by decide +kernel
theorem dX4_firstSole_23 : decode cX4_firstSole 23 = .ok (.ifCond .eq 23, 3) := by decide +kernel
theorem dX4_firstSole_26 : decode cX4_firstSole 26 = .ok (.aload 4, 2) := by decide +kernel
theorem dX4_firstSole_28 : decode cX4_firstSole 28 = .ok (.invokevirtual 65, 3) := by decide +kernel
theorem dX4_firstSole_31 : decode cX4_firstSole 31 = .ok (.ifCond .eq 15, 3) := by decide +kernel
theorem dX4_firstSole_34 : decode cX4_firstSole 34 = .ok (.aload 4, 2) := by decide +kernel
theorem dX4_firstSole_36 : decode cX4_firstSole 36 = .ok (.iload_n 1, 1) := by decide +kernel
theorem dX4_firstSole_37 : decode cX4_firstSole 37 = .ok (.iload_n 2, 1) := by decide +kernel
theorem dX4_firstSole_38 : decode cX4_firstSole 38 = .ok (.invokevirtual 61, 3) := by decide +kernel
theorem dX4_firstSole_41 : decode cX4_firstSole 41 = .ok (.ifCond .eq 5, 3) := by decide +kernel
theorem dX4_firstSole_44 : decode cX4_firstSole 44 = .ok (.iload_n 3, 1) := by decide +kernel
theorem dX4_firstSole_45 : decode cX4_firstSole 45 = .ok (.ireturn, 1) := by decide +kernel
theorem dX4_firstSole_46 : decode cX4_firstSole 46 = .ok (.iinc 3 1, 3) := by decide +kernel
theorem dX4_firstSole_49 : decode cX4_firstSole 49 = .ok (.goto (-47), 3) := by decide +kernel
theorem dX4_firstSole_52 : decode cX4_firstSole 52 = .ok (.iconst (-1), 1) := by decide +kernel
theorem dX4_firstSole_53 : decode cX4_firstSole 53 = .ok (.ireturn, 1) := by decide +kernel
theorem dX4_ownsRivalOf_0 : decode cX4_ownsRivalOf 0 = .ok (.iconst 0, 1) := by decide +kernel
theorem dX4_ownsRivalOf_1 : decode cX4_ownsRivalOf 1 = .ok (.istore_n 2, 1) := by decide +kernel
theorem dX4_ownsRivalOf_2 : decode cX4_ownsRivalOf 2 = .ok (.iload_n 2, 1) := by decide +kernel
theorem dX4_ownsRivalOf_3 : decode cX4_ownsRivalOf 3 = .ok (.aload_n 0, 1) := by decide +kernel
theorem dX4_ownsRivalOf_4 : decode cX4_ownsRivalOf 4 = .ok (.getfield 25, 3) := by decide +kernel
theorem dX4_ownsRivalOf_7 : decode cX4_ownsRivalOf 7 = .ok (.if_icmp .ge 58, 3) := by decide +kernel
theorem dX4_ownsRivalOf_10 : decode cX4_ownsRivalOf 10 = .ok (.aload_n 0, 1) := by decide +kernel
theorem dX4_ownsRivalOf_11 : decode cX4_ownsRivalOf 11 = .ok (.getfield 11, 3) := by decide +kernel
theorem dX4_ownsRivalOf_14 : decode cX4_ownsRivalOf 14 = .ok (.iload_n 2, 1) := by decide +kernel
theorem dX4_ownsRivalOf_15 : decode cX4_ownsRivalOf 15 = .ok (.aaload, 1) := by decide +kernel
theorem dX4_ownsRivalOf_16 : decode cX4_ownsRivalOf 16 = .ok (.astore_n 3, 1) := by decide +kernel
theorem dX4_ownsRivalOf_17 : decode cX4_ownsRivalOf 17 = .ok (.aload_n 3, 1) := by decide +kernel
theorem dX4_ownsRivalOf_18 : decode cX4_ownsRivalOf 18 = .ok (.getfield 73, 3) := by decide +kernel
theorem dX4_ownsRivalOf_21 : decode cX4_ownsRivalOf 21 = .ok (.ifCond .eq 38, 3) := by decide +kernel
theorem dX4_ownsRivalOf_24 : decode cX4_ownsRivalOf 24 = .ok (.aload_n 3, 1) := by decide +kernel
theorem dX4_ownsRivalOf_25 : decode cX4_ownsRivalOf 25 = .ok (.invokevirtual 65, 3) := by decide +kernel
theorem dX4_ownsRivalOf_28 : decode cX4_ownsRivalOf 28 = .ok (.ifCond .eq 31, 3) := by decide +kernel
theorem dX4_ownsRivalOf_31 : decode cX4_ownsRivalOf 31 = .ok (.aload_n 3, 1) := by decide +kernel
theorem dX4_ownsRivalOf_32 : decode cX4_ownsRivalOf 32 = .ok (.aload_n 1, 1) := by decide +kernel
theorem dX4_ownsRivalOf_33 : decode cX4_ownsRivalOf 33 = .ok (.getfield 46, 3) := by decide +kernel
theorem dX4_ownsRivalOf_36 : decode cX4_ownsRivalOf 36 = .ok (.aload_n 1, 1) := by decide +kernel
theorem dX4_ownsRivalOf_37 : decode cX4_ownsRivalOf 37 = .ok (.getfield 49, 3) := by decide +kernel
theorem dX4_ownsRivalOf_40 : decode cX4_ownsRivalOf 40 = .ok (.invokevirtual 61, 3) := by decide +kernel
theorem dX4_ownsRivalOf_43 : decode cX4_ownsRivalOf 43 = .ok (.ifCond .eq 16, 3) := by decide +kernel
theorem dX4_ownsRivalOf_46 : decode cX4_ownsRivalOf 46 = .ok (.aload_n 3, 1) := by decide +kernel
theorem dX4_ownsRivalOf_47 : decode cX4_ownsRivalOf 47 = .ok (.getfield 52, 3) := by decide +kernel
theorem dX4_ownsRivalOf_50 : decode cX4_ownsRivalOf 50 = .ok (.aload_n 1, 1) := by decide +kernel
theorem dX4_ownsRivalOf_51 : decode cX4_ownsRivalOf 51 = .ok (.getfield 52, 3) := by decide +kernel
theorem dX4_ownsRivalOf_54 : decode cX4_ownsRivalOf 54 = .ok (.if_icmp .eq 5, 3) := by decide +kernel
theorem dX4_ownsRivalOf_57 : decode cX4_ownsRivalOf 57 = .ok (.iconst 1, 1) := by decide +kernel
theorem dX4_ownsRivalOf_58 : decode cX4_ownsRivalOf 58 = .ok (.ireturn, 1) := by decide +kernel
theorem dX4_ownsRivalOf_59 : decode cX4_ownsRivalOf 59 = .ok (.iinc 2 1, 3) := by decide +kernel
theorem dX4_ownsRivalOf_62 : decode cX4_ownsRivalOf 62 = .ok (.goto (-60), 3) := by decide +kernel
theorem dX4_ownsRivalOf_65 : decode cX4_ownsRivalOf 65 = .ok (.iconst 0, 1) := by decide +kernel
theorem dX4_ownsRivalOf_66 : decode cX4_ownsRivalOf 66 = .ok (.ireturn, 1) := by decide +kernel
theorem dX4_outbids_0 : decode cX4_outbids 0 = .ok (.iconst 0, 1) := by decide +kernel
theorem dX4_outbids_1 : decode cX4_outbids 1 = .ok (.istore_n 2, 1) := by decide +kernel
theorem dX4_outbids_2 : decode cX4_outbids 2 = .ok (.iload_n 2, 1) := by decide +kernel
theorem dX4_outbids_3 : decode cX4_outbids 3 = .ok (.aload_n 0, 1) := by decide +kernel
theorem dX4_outbids_4 : decode cX4_outbids 4 = .ok (.getfield 25, 3) := by decide +kernel
theorem dX4_outbids_7 : decode cX4_outbids 7 = .ok (.if_icmp .ge 51, 3) := by decide +kernel
theorem dX4_outbids_10 : decode cX4_outbids 10 = .ok (.aload_n 0, 1) := by decide +kernel
theorem dX4_outbids_11 : decode cX4_outbids 11 = .ok (.getfield 11, 3) := by decide +kernel
theorem dX4_outbids_14 : decode cX4_outbids 14 = .ok (.iload_n 2, 1) := by decide +kernel
theorem dX4_outbids_15 : decode cX4_outbids 15 = .ok (.aaload, 1) := by decide +kernel
theorem dX4_outbids_16 : decode cX4_outbids 16 = .ok (.astore_n 3, 1) := by decide +kernel
theorem dX4_outbids_17 : decode cX4_outbids 17 = .ok (.aload_n 3, 1) := by decide +kernel
theorem dX4_outbids_18 : decode cX4_outbids 18 = .ok (.invokevirtual 65, 3) := by decide +kernel
theorem dX4_outbids_21 : decode cX4_outbids 21 = .ok (.ifCond .ne 31, 3) := by decide +kernel
theorem dX4_outbids_24 : decode cX4_outbids 24 = .ok (.aload_n 3, 1) := by decide +kernel
theorem dX4_outbids_25 : decode cX4_outbids 25 = .ok (.aload_n 1, 1) := by decide +kernel
theorem dX4_outbids_26 : decode cX4_outbids 26 = .ok (.getfield 46, 3) := by decide +kernel
theorem dX4_outbids_29 : decode cX4_outbids 29 = .ok (.aload_n 1, 1) := by decide +kernel
theorem dX4_outbids_30 : decode cX4_outbids 30 = .ok (.getfield 49, 3) := by decide +kernel
theorem dX4_outbids_33 : decode cX4_outbids 33 = .ok (.invokevirtual 61, 3) := by decide +kernel
theorem dX4_outbids_36 : decode cX4_outbids 36 = .ok (.ifCond .eq 16, 3) := by decide +kernel
theorem dX4_outbids_39 : decode cX4_outbids 39 = .ok (.aload_n 3, 1) := by decide +kernel
theorem dX4_outbids_40 : decode cX4_outbids 40 = .ok (.getfield 52, 3) := by decide +kernel
theorem dX4_outbids_43 : decode cX4_outbids 43 = .ok (.aload_n 1, 1) := by decide +kernel
theorem dX4_outbids_44 : decode cX4_outbids 44 = .ok (.getfield 52, 3) := by decide +kernel
theorem dX4_outbids_47 : decode cX4_outbids 47 = .ok (.if_icmp .le 5, 3) := by decide +kernel
theorem dX4_outbids_50 : decode cX4_outbids 50 = .ok (.iconst 1, 1) := by decide +kernel
theorem dX4_outbids_51 : decode cX4_outbids 51 = .ok (.ireturn, 1) := by decide +kernel
theorem dX4_outbids_52 : decode cX4_outbids 52 = .ok (.iinc 2 1, 3) := by decide +kernel
theorem dX4_outbids_55 : decode cX4_outbids 55 = .ok (.goto (-53), 3) := by decide +kernel
theorem dX4_outbids_58 : decode cX4_outbids 58 = .ok (.iconst 0, 1) := by decide +kernel
theorem dX4_outbids_59 : decode cX4_outbids 59 = .ok (.ireturn, 1) := by decide +kernel
theorem dX5_init_0 : decode cX5_init 0 = .ok (.aload_n 0, 1) := by decide +kernel
theorem dX5_init_1 : decode cX5_init 1 = .ok (.invokespecial 3, 3) := by decide +kernel
theorem dX5_init_4 : decode cX5_init 4 = .ok (.aload_n 0, 1) := by decide +kernel
theorem dX5_init_5 : decode cX5_init 5 = .ok (.bipush 6, 2) := by decide +kernel
theorem dX5_init_7 : decode cX5_init 7 = .ok (.anewarray 9, 3) := by decide +kernel
theorem dX5_init_10 : decode cX5_init 10 = .ok (.putfield 11, 3) := by decide +kernel
theorem dX5_init_13 : decode cX5_init 13 = .ok (.iconst 0, 1) := by decide +kernel
theorem dX5_init_14 : decode cX5_init 14 = .ok (.istore_n 1, 1) := by decide +kernel
theorem dX5_init_15 : decode cX5_init 15 = .ok (.iload_n 1, 1) := by decide +kernel
theorem dX5_init_16 : decode cX5_init 16 = .ok (.bipush 6, 2) := by decide +kernel
theorem dX5_init_18 : decode cX5_init 18 = .ok (.if_icmp .ge 22, 3) := by decide +kernel
theorem dX5_init_21 : decode cX5_init 21 = .ok (.aload_n 0, 1) := by decide +kernel
theorem dX5_init_22 : decode cX5_init 22 = .ok (.getfield 11, 3) := by decide +kernel
theorem dX5_init_25 : decode cX5_init 25 = .ok (.iload_n 1, 1) := by decide +kernel
theorem dX5_init_26 : decode cX5_init 26 = .ok (.new 9, 3) := by decide +kernel
theorem dX5_init_29 : decode cX5_init 29 = .ok (.dup, 1) := by decide +kernel
theorem dX5_init_30 : decode cX5_init 30 = .ok (.invokespecial 17, 3) := by decide +kernel
theorem dX5_init_33 : decode cX5_init 33 = .ok (.aastore, 1) := by decide +kernel
theorem dX5_init_34 : decode cX5_init 34 = .ok (.iinc 1 1, 3) := by decide +kernel
theorem dX5_init_37 : decode cX5_init 37 = .ok (.goto (-22), 3) := by decide +kernel
theorem dX5_init_40 : decode cX5_init 40 = .ok (.aload_n 0, 1) := by decide +kernel
theorem dX5_init_41 : decode cX5_init 41 = .ok (.new 18, 3) := by decide +kernel
theorem dX5_init_44 : decode cX5_init 44 = .ok (.dup, 1) := by decide +kernel
theorem dX5_init_45 : decode cX5_init 45 = .ok (.invokespecial 20, 3) := by decide +kernel
theorem dX5_init_48 : decode cX5_init 48 = .ok (.putfield 21, 3) := by decide +kernel
theorem dX5_init_51 : decode cX5_init 51 = .ok (.return_, 1) := by decide +kernel
theorem dX5_become_0 : decode cX5_become 0 = .ok (.aload_n 0, 1) := by decide +kernel
theorem dX5_become_1 : decode cX5_become 1 = .ok (.aload_n 1, 1) := by decide +kernel
theorem dX5_become_2 : decode cX5_become 2 = .ok (.getfield 25, 3) := by decide +kernel
theorem dX5_become_5 : decode cX5_become 5 = .ok (.putfield 25, 3) := by decide +kernel
theorem dX5_become_8 : decode cX5_become 8 = .ok (.iconst 0, 1) := by decide +kernel
theorem dX5_become_9 : decode cX5_become 9 = .ok (.istore_n 2, 1) := by decide +kernel
theorem dX5_become_10 : decode cX5_become 10 = .ok (.iload_n 2, 1) := by decide +kernel
theorem dX5_become_11 : decode cX5_become 11 = .ok (.aload_n 0, 1) := by decide +kernel
theorem dX5_become_12 : decode cX5_become 12 = .ok (.getfield 25, 3) := by decide +kernel
theorem dX5_become_15 : decode cX5_become 15 = .ok (.if_icmp .ge 24, 3) := by decide +kernel
theorem dX5_become_18 : decode cX5_become 18 = .ok (.aload_n 0, 1) := by decide +kernel
theorem dX5_become_19 : decode cX5_become 19 = .ok (.getfield 11, 3) := by decide +kernel
theorem dX5_become_22 : decode cX5_become 22 = .ok (.iload_n 2, 1) := by decide +kernel
theorem dX5_become_23 : decode cX5_become 23 = .ok (.aaload, 1) := by decide +kernel
theorem dX5_become_24 : decode cX5_become 24 = .ok (.aload_n 1, 1) := by decide +kernel
theorem dX5_become_25 : decode cX5_become 25 = .ok (.getfield 11, 3) := by decide +kernel
theorem dX5_become_28 : decode cX5_become 28 = .ok (.iload_n 2, 1) := by decide +kernel
theorem dX5_become_29 : decode cX5_become 29 = .ok (.aaload, 1) := by decide +kernel
theorem dX5_become_30 : decode cX5_become 30 = .ok (.invokevirtual 29, 3) := by decide +kernel
theorem dX5_become_33 : decode cX5_become 33 = .ok (.iinc 2 1, 3) := by decide +kernel
theorem dX5_become_36 : decode cX5_become 36 = .ok (.goto (-26), 3) := by decide +kernel
theorem dX5_become_39 : decode cX5_become 39 = .ok (.aload_n 0, 1) := by decide +kernel
theorem dX5_become_40 : decode cX5_become 40 = .ok (.aload_n 1, 1) := by decide +kernel
theorem dX5_become_41 : decode cX5_become 41 = .ok (.getfield 33, 3) := by decide +kernel
theorem dX5_become_44 : decode cX5_become 44 = .ok (.putfield 33, 3) := by decide +kernel
theorem dX5_become_47 : decode cX5_become 47 = .ok (.aload_n 0, 1) := by decide +kernel
theorem dX5_become_48 : decode cX5_become 48 = .ok (.aload_n 1, 1) := by decide +kernel
theorem dX5_become_49 : decode cX5_become 49 = .ok (.getfield 36, 3) := by decide +kernel
theorem dX5_become_52 : decode cX5_become 52 = .ok (.putfield 36, 3) := by decide +kernel
theorem dX5_become_55 : decode cX5_become 55 = .ok (.aload_n 0, 1) := by decide +kernel
theorem dX5_become_56 : decode cX5_become 56 = .ok (.aload_n 1, 1) := by decide +kernel
theorem dX5_become_57 : decode cX5_become 57 = .ok (.getfield 39, 3) := by decide +kernel
theorem dX5_become_60 : decode cX5_become 60 = .ok (.putfield 39, 3) := by decide +kernel
theorem dX5_become_63 : decode cX5_become 63 = .ok (.aload_n 0, 1) := by decide +kernel
theorem dX5_become_64 : decode cX5_become 64 = .ok (.aload_n 1, 1) := by decide +kernel
theorem dX5_become_65 : decode cX5_become 65 = .ok (.getfield 42, 3) := by decide +kernel
theorem dX5_become_68 : decode cX5_become 68 = .ok (.putfield 42, 3) := by decide +kernel
theorem dX5_become_71 : decode cX5_become 71 = .ok (.aload_n 0, 1) := by decide +kernel
theorem dX5_become_72 : decode cX5_become 72 = .ok (.aload_n 1, 1) := by decide +kernel
theorem dX5_become_73 : decode cX5_become 73 = .ok (.getfield 45, 3) := by decide +kernel
theorem dX5_become_76 : decode cX5_become 76 = .ok (.putfield 45, 3) := by decide +kernel
theorem dX5_become_79 : decode cX5_become 79 = .ok (.aload_n 0, 1) := by decide +kernel
theorem dX5_become_80 : decode cX5_become 80 = .ok (.aload_n 1, 1) := by decide +kernel
theorem dX5_become_81 : decode cX5_become 81 = .ok (.getfield 48, 3) := by decide +kernel
theorem dX5_become_84 : decode cX5_become 84 = .ok (.putfield 48, 3) := by decide +kernel
theorem dX5_become_87 : decode cX5_become 87 = .ok (.aload_n 0, 1) := by decide +kernel
theorem dX5_become_88 : decode cX5_become 88 = .ok (.aload_n 1, 1) := by decide +kernel
theorem dX5_become_89 : decode cX5_become 89 = .ok (.getfield 51, 3) := by decide +kernel
theorem dX5_become_92 : decode cX5_become 92 = .ok (.putfield 51, 3) := by decide +kernel
theorem dX5_become_95 : decode cX5_become 95 = .ok (.return_, 1) := by decide +kernel
theorem dX5_isHost_0 : decode cX5_isHost 0 = .ok (.iload_n 1, 1) := by decide +kernel
theorem dX5_isHost_1 : decode cX5_isHost 1 = .ok (.ifCond .lt 15, 3) := by decide +kernel
theorem dX5_isHost_4 : decode cX5_isHost 4 = .ok (.iload_n 1, 1) := by decide +kernel
theorem dX5_isHost_5 : decode cX5_isHost 5 = .ok (.aload_n 0, 1) := by decide +kernel
theorem dX5_isHost_6 : decode cX5_isHost 6 = .ok (.getfield 25, 3) := by decide +kernel
theorem dX5_isHost_9 : decode cX5_isHost 9 = .ok (.if_icmp .ge 7, 3) := by decide +kernel
theorem dX5_isHost_12 : decode cX5_isHost 12 = .ok (.iconst 1, 1) := by decide +kernel
theorem dX5_isHost_13 : decode cX5_isHost 13 = .ok (.goto 4, 3) := by decide +kernel
theorem dX5_isHost_16 : decode cX5_isHost 16 = .ok (.iconst 0, 1) := by decide +kernel
theorem dX5_isHost_17 : decode cX5_isHost 17 = .ok (.ireturn, 1) := by decide +kernel
theorem dX5_isRecord_0 : decode cX5_isRecord 0 = .ok (.aload_n 0, 1) := by decide +kernel
theorem dX5_isRecord_1 : decode cX5_isRecord 1 = .ok (.iload_n 1, 1) := by decide +kernel
theorem dX5_isRecord_2 : decode cX5_isRecord 2 = .ok (.invokevirtual 55, 3) := by decide +kernel
theorem dX5_isRecord_5 : decode cX5_isRecord 5 = .ok (.ifCond .eq 24, 3) := by decide +kernel
theorem dX5_isRecord_8 : decode cX5_isRecord 8 = .ok (.iload_n 2, 1) := by decide +kernel
theorem dX5_isRecord_9 : decode cX5_isRecord 9 = .ok (.ifCond .lt 20, 3) := by decide +kernel
theorem dX5_isRecord_12 : decode cX5_isRecord 12 = .ok (.iload_n 2, 1) := by decide +kernel
theorem dX5_isRecord_13 : decode cX5_isRecord 13 = .ok (.aload_n 0, 1) := by decide +kernel
theorem dX5_isRecord_14 : decode cX5_isRecord 14 = .ok (.getfield 11, 3) := by decide +kernel
theorem dX5_isRecord_17 : decode cX5_isRecord 17 = .ok (.iload_n 1, 1) := by decide +kernel
theorem dX5_isRecord_18 : decode cX5_isRecord 18 = .ok (.aaload, 1) := by decide +kernel
theorem dX5_isRecord_19 : decode cX5_isRecord 19 = .ok (.getfield 59, 3) := by decide +kernel
theorem dX5_isRecord_22 : decode cX5_isRecord 22 = .ok (.if_icmp .ge 7, 3) := by decide +kernel
theorem dX5_isRecord_25 : decode cX5_isRecord 25 = .ok (.iconst 1, 1) := by decide +kernel
theorem dX5_isRecord_26 : decode cX5_isRecord 26 = .ok (.goto 4, 3) := by decide +kernel
theorem dX5_isRecord_29 : decode cX5_isRecord 29 = .ok (.iconst 0, 1) := by decide +kernel
theorem dX5_isRecord_30 : decode cX5_isRecord 30 = .ok (.ireturn, 1) := by decide +kernel
theorem dX5_isName_0 : decode cX5_isName 0 = .ok (.iload_n 0, 1) := by decide +kernel
theorem dX5_isName_1 : decode cX5_isName 1 = .ok (.iconst 0, 1) := by decide +kernel
theorem dX5_isName_2 : decode cX5_isName 2 = .ok (.bipush 15, 2) := by decide +kernel
theorem dX5_isName_4 : decode cX5_isName 4 = .ok (.invokestatic 62, 3) := by decide +kernel
theorem dX5_isName_7 : decode cX5_isName 7 = .ok (.ifCond .eq 16, 3) := by decide +kernel
theorem dX5_isName_10 : decode cX5_isName 10 = .ok (.iload_n 1, 1) := by decide +kernel
theorem dX5_isName_11 : decode cX5_isName 11 = .ok (.iconst 0, 1) := by decide +kernel
theorem dX5_isName_12 : decode cX5_isName 12 = .ok (.iconst 3, 1) := by decide +kernel
theorem dX5_isName_13 : decode cX5_isName 13 = .ok (.invokestatic 62, 3) := by decide +kernel
theorem dX5_isName_16 : decode cX5_isName 16 = .ok (.ifCond .eq 7, 3) := by decide +kernel
theorem dX5_isName_19 : decode cX5_isName 19 = .ok (.iconst 1, 1) := by decide +kernel
theorem dX5_isName_20 : decode cX5_isName 20 = .ok (.goto 4, 3) := by decide +kernel
theorem dX5_isName_23 : decode cX5_isName 23 = .ok (.iconst 0, 1) := by decide +kernel
theorem dX5_isName_24 : decode cX5_isName 24 = .ok (.ireturn, 1) := by decide +kernel
theorem dX5_addHost_0 : decode cX5_addHost 0 = .ok (.aload_n 0, 1) := by decide +kernel
theorem dX5_addHost_1 : decode cX5_addHost 1 = .ok (.getfield 25, 3) := by decide +kernel
theorem dX5_addHost_4 : decode cX5_addHost 4 = .ok (.bipush 6, 2) := by decide +kernel
theorem dX5_addHost_6 : decode cX5_addHost 6 = .ok (.if_icmp .lt 6, 3) := by decide +kernel
theorem dX5_addHost_9 : decode cX5_addHost 9 = .ok (.bipush (-4), 2) := by decide +kernel
theorem dX5_addHost_11 : decode cX5_addHost 11 = .ok (.ireturn, 1) := by decide +kernel
theorem dX5_addHost_12 : decode cX5_addHost 12 = .ok (.aload_n 0, 1) := by decide +kernel
theorem dX5_addHost_13 : decode cX5_addHost 13 = .ok (.getfield 11, 3) := by decide +kernel
theorem dX5_addHost_16 : decode cX5_addHost 16 = .ok (.aload_n 0, 1) := by decide +kernel
theorem dX5_addHost_17 : decode cX5_addHost 17 = .ok (.getfield 25, 3) := by decide +kernel
theorem dX5_addHost_20 : decode cX5_addHost 20 = .ok (.aaload, 1) := by decide +kernel
theorem dX5_addHost_21 : decode cX5_addHost 21 = .ok (.invokevirtual 66, 3) := by decide +kernel
theorem dX5_addHost_24 : decode cX5_addHost 24 = .ok (.aload_n 0, 1) := by decide +kernel
theorem dX5_addHost_25 : decode cX5_addHost 25 = .ok (.dup, 1) := by decide +kernel
theorem dX5_addHost_26 : decode cX5_addHost 26 = .ok (.getfield 25, 3) := by decide +kernel
theorem dX5_addHost_29 : decode cX5_addHost 29 = .ok (.iconst 1, 1) := by decide +kernel
theorem dX5_addHost_30 : decode cX5_addHost 30 = .ok (.iadd, 1) := by decide +kernel
theorem dX5_addHost_31 : decode cX5_addHost 31 = .ok (.putfield 25, 3) := by decide +kernel
theorem dX5_addHost_34 : decode cX5_addHost 34 = .ok (.aload_n 0, 1) := by decide +kernel
theorem dX5_addHost_35 : decode cX5_addHost 35 = .ok (.getfield 25, 3) := by decide +kernel
theorem dX5_addHost_38 : decode cX5_addHost 38 = .ok (.iconst 1, 1) := by decide +kernel
theorem dX5_addHost_39 : decode cX5_addHost 39 = .ok (.isub, 1) := by decide +kernel
theorem dX5_addHost_40 : decode cX5_addHost 40 = .ok (.ireturn, 1) := by decide +kernel
theorem dX5_claim_0 : decode cX5_claim 0 = .ok (.aload_n 0, 1) := by decide +kernel
theorem dX5_claim_1 : decode cX5_claim 1 = .ok (.iload_n 1, 1) := by decide +kernel
theorem dX5_claim_2 : decode cX5_claim 2 = .ok (.iload_n 2, 1) := by decide +kernel
theorem dX5_claim_3 : decode cX5_claim 3 = .ok (.iload_n 3, 1) := by decide +kernel
theorem dX5_claim_4 : decode cX5_claim 4 = .ok (.iload 4, 2) := by decide +kernel
theorem dX5_claim_6 : decode cX5_claim 6 = .ok (.iload 5, 2) := by decide +kernel
theorem dX5_claim_8 : decode cX5_claim 8 = .ok (.invokevirtual 69, 3) := by decide +kernel
theorem dX5_claim_11 : decode cX5_claim 11 = .ok (.istore 6, 2) := by decide +kernel
theorem dX5_claim_13 : decode cX5_claim 13 = .ok (.iload 6, 2) := by decide +kernel
theorem dX5_claim_15 : decode cX5_claim 15 = .ok (.ifCond .eq 6, 3) := by decide +kernel
theorem dX5_claim_18 : decode cX5_claim 18 = .ok (.iload 6, 2) := by decide +kernel
theorem dX5_claim_20 : decode cX5_claim 20 = .ok (.ireturn, 1) := by decide +kernel
theorem dX5_claim_21 : decode cX5_claim 21 = .ok (.aload_n 0, 1) := by decide +kernel
theorem dX5_claim_22 : decode cX5_claim 22 = .ok (.getfield 11, 3) := by decide +kernel
theorem dX5_claim_25 : decode cX5_claim 25 = .ok (.iload_n 1, 1) := by decide +kernel
theorem dX5_claim_26 : decode cX5_claim 26 = .ok (.aaload, 1) := by decide +kernel
theorem dX5_claim_27 : decode cX5_claim 27 = .ok (.iload_n 2, 1) := by decide +kernel
theorem dX5_claim_28 : decode cX5_claim 28 = .ok (.iload_n 3, 1) := by decide +kernel
theorem dX5_claim_29 : decode cX5_claim 29 = .ok (.iload 4, 2) := by decide +kernel
theorem dX5_claim_31 : decode cX5_claim 31 = .ok (.iload 5, 2) := by decide +kernel
theorem dX5_claim_33 : decode cX5_claim 33 = .ok (.invokevirtual 73, 3) := by decide +kernel
theorem dX5_claim_36 : decode cX5_claim 36 = .ok (.astore 7, 2) := by decide +kernel
theorem dX5_claim_38 : decode cX5_claim 38 = .ok (.aload 7, 2) := by decide +kernel
theorem dX5_claim_40 : decode cX5_claim 40 = .ok (.iconst 1, 1) := by decide +kernel
theorem dX5_claim_41 : decode cX5_claim 41 = .ok (.putfield 77, 3) := by decide +kernel
theorem dX5_claim_44 : decode cX5_claim 44 = .ok (.aload 7, 2) := by decide +kernel
theorem dX5_claim_46 : decode cX5_claim 46 = .ok (.iconst 0, 1) := by decide +kernel
theorem dX5_claim_47 : decode cX5_claim 47 = .ok (.putfield 83, 3) := by decide +kernel
theorem dX5_claim_50 : decode cX5_claim 50 = .ok (.aload_n 0, 1) := by decide +kernel
theorem dX5_claim_51 : decode cX5_claim 51 = .ok (.getfield 11, 3) := by decide +kernel
theorem dX5_claim_54 : decode cX5_claim 54 = .ok (.iload_n 1, 1) := by decide +kernel
theorem dX5_claim_55 : decode cX5_claim 55 = .ok (.aaload, 1) := by decide +kernel
theorem dX5_claim_56 : decode cX5_claim 56 = .ok (.getfield 59, 3) := by decide +kernel
theorem dX5_claim_59 : decode cX5_claim 59 = .ok (.iconst 1, 1) := by decide +kernel
theorem dX5_claim_60 : decode cX5_claim 60 = .ok (.isub, 1) := by decide +kernel
theorem dX5_claim_61 : decode cX5_claim 61 = .ok (.ireturn, 1) := by decide +kernel
theorem dX5_share_0 : decode cX5_share 0 = .ok (.aload_n 0, 1) := by decide +kernel
theorem dX5_share_1 : decode cX5_share 1 = .ok (.iload_n 1, 1) := by decide +kernel
theorem dX5_share_2 : decode cX5_share 2 = .ok (.iload_n 2, 1) := by decide +kernel
theorem dX5_share_3 : decode cX5_share 3 = .ok (.iload_n 3, 1) := by decide +kernel
theorem dX5_share_4 : decode cX5_share 4 = .ok (.iload 4, 2) := by decide +kernel
theorem dX5_share_6 : decode cX5_share 6 = .ok (.iload 5, 2) := by decide +kernel
theorem dX5_share_8 : decode cX5_share 8 = .ok (.invokevirtual 69, 3) := by decide +kernel
theorem dX5_share_11 : decode cX5_share 11 = .ok (.istore 6, 2) := by decide +kernel
theorem dX5_share_13 : decode cX5_share 13 = .ok (.iload 6, 2) := by decide +kernel
theorem dX5_share_15 : decode cX5_share 15 = .ok (.ifCond .eq 6, 3) := by decide +kernel
theorem dX5_share_18 : decode cX5_share 18 = .ok (.iload 6, 2) := by decide +kernel
theorem dX5_share_20 : decode cX5_share 20 = .ok (.ireturn, 1) := by decide +kernel
theorem dX5_share_21 : decode cX5_share 21 = .ok (.aload_n 0, 1) := by decide +kernel
theorem dX5_share_22 : decode cX5_share 22 = .ok (.getfield 11, 3) := by decide +kernel
theorem dX5_share_25 : decode cX5_share 25 = .ok (.iload_n 1, 1) := by decide +kernel
theorem dX5_share_26 : decode cX5_share 26 = .ok (.aaload, 1) := by decide +kernel
theorem dX5_share_27 : decode cX5_share 27 = .ok (.iload_n 2, 1) := by decide +kernel
theorem dX5_share_28 : decode cX5_share 28 = .ok (.iload_n 3, 1) := by decide +kernel
theorem dX5_share_29 : decode cX5_share 29 = .ok (.iload 4, 2) := by decide +kernel
theorem dX5_share_31 : decode cX5_share 31 = .ok (.iload 5, 2) := by decide +kernel
theorem dX5_share_33 : decode cX5_share 33 = .ok (.invokevirtual 73, 3) := by decide +kernel
theorem dX5_share_36 : decode cX5_share 36 = .ok (.astore 7, 2) := by decide +kernel
theorem dX5_share_38 : decode cX5_share 38 = .ok (.aload 7, 2) := by decide +kernel
theorem dX5_share_40 : decode cX5_share 40 = .ok (.iconst 0, 1) := by decide +kernel
theorem dX5_share_41 : decode cX5_share 41 = .ok (.putfield 77, 3) := by decide +kernel
theorem dX5_share_44 : decode cX5_share 44 = .ok (.aload 7, 2) := by decide +kernel
theorem dX5_share_46 : decode cX5_share 46 = .ok (.iconst 3, 1) := by decide +kernel
theorem dX5_share_47 : decode cX5_share 47 = .ok (.putfield 83, 3) := by decide +kernel
theorem dX5_share_50 : decode cX5_share 50 = .ok (.aload_n 0, 1) := by decide +kernel
theorem dX5_share_51 : decode cX5_share 51 = .ok (.iload_n 1, 1) := by decide +kernel
theorem dX5_share_52 : decode cX5_share 52 = .ok (.aload 7, 2) := by decide +kernel
theorem dX5_share_54 : decode cX5_share 54 = .ok (.invokevirtual 86, 3) := by decide +kernel
theorem dX5_share_57 : decode cX5_share 57 = .ok (.aload_n 0, 1) := by decide +kernel
theorem dX5_share_58 : decode cX5_share 58 = .ok (.getfield 11, 3) := by decide +kernel
theorem dX5_share_61 : decode cX5_share 61 = .ok (.iload_n 1, 1) := by decide +kernel
theorem dX5_share_62 : decode cX5_share 62 = .ok (.aaload, 1) := by decide +kernel
theorem dX5_share_63 : decode cX5_share 63 = .ok (.getfield 59, 3) := by decide +kernel
theorem dX5_share_66 : decode cX5_share 66 = .ok (.iconst 1, 1) := by decide +kernel
theorem dX5_share_67 : decode cX5_share 67 = .ok (.isub, 1) := by decide +kernel
theorem dX5_share_68 : decode cX5_share 68 = .ok (.ireturn, 1) := by decide +kernel
theorem dX5_errorOfAdding_0 : decode cX5_errorOfAdding 0 = .ok (.aload_n 0, 1) := by decide +kernel
theorem dX5_errorOfAdding_1 : decode cX5_errorOfAdding 1 = .ok (.iload_n 1, 1) := by decide +kernel
theorem dX5_errorOfAdding_2 : decode cX5_errorOfAdding 2 = .ok (.invokevirtual 55, 3) := by decide +kernel
theorem dX5_errorOfAdding_5 : decode cX5_errorOfAdding 5 = .ok (.ifCond .eq 34, 3) := by decide +kernel
theorem dX5_errorOfAdding_8 : decode cX5_errorOfAdding 8 = .ok (.iload_n 2, 1) := by decide +kernel
theorem dX5_errorOfAdding_9 : decode cX5_errorOfAdding 9 = .ok (.iload_n 3, 1) := by decide +kernel
theorem dX5_errorOfAdding_10 : decode cX5_errorOfAdding 10 = .ok (.invokestatic 90, 3) := by decide +kernel
theorem dX5_errorOfAdding_13 : decode cX5_errorOfAdding 13 = .ok (.ifCond .eq 26, 3) := by decide +kernel
theorem dX5_errorOfAdding_16 : decode cX5_errorOfAdding 16 = .ok (.iload 4, 2) := by decide +kernel
theorem dX5_errorOfAdding_18 : decode cX5_errorOfAdding 18 = .ok (.iconst 0, 1) := by decide +kernel
theorem dX5_errorOfAdding_19 : decode cX5_errorOfAdding 19 = .ok (.sipush 255, 3) := by decide +kernel
theorem dX5_errorOfAdding_22 : decode cX5_errorOfAdding 22 = .ok (.invokestatic 62, 3) := by decide +kernel
theorem dX5_errorOfAdding_25 : decode cX5_errorOfAdding 25 = .ok (.ifCond .eq 14, 3) := by decide +kernel
theorem dX5_errorOfAdding_28 : decode cX5_errorOfAdding 28 = .ok (.iload 5, 2) := by decide +kernel
theorem dX5_errorOfAdding_30 : decode cX5_errorOfAdding 30 = .ok (.iconst 2, 1) := by decide +kernel
theorem dX5_errorOfAdding_31 : decode cX5_errorOfAdding 31 = .ok (.bipush 60, 2) := by decide +kernel
theorem dX5_errorOfAdding_33 : decode cX5_errorOfAdding 33 = .ok (.invokestatic 62, 3) := by decide +kernel
theorem dX5_errorOfAdding_36 : decode cX5_errorOfAdding 36 = .ok (.ifCond .ne 6, 3) := by decide +kernel
theorem dX5_errorOfAdding_39 : decode cX5_errorOfAdding 39 = .ok (.bipush (-2), 2) := by decide +kernel
theorem dX5_errorOfAdding_41 : decode cX5_errorOfAdding 41 = .ok (.ireturn, 1) := by decide +kernel
theorem dX5_errorOfAdding_42 : decode cX5_errorOfAdding 42 = .ok (.aload_n 0, 1) := by decide +kernel
theorem dX5_errorOfAdding_43 : decode cX5_errorOfAdding 43 = .ok (.getfield 11, 3) := by decide +kernel
theorem dX5_errorOfAdding_46 : decode cX5_errorOfAdding 46 = .ok (.iload_n 1, 1) := by decide +kernel
theorem dX5_errorOfAdding_47 : decode cX5_errorOfAdding 47 = .ok (.aaload, 1) := by decide +kernel
theorem dX5_errorOfAdding_48 : decode cX5_errorOfAdding 48 = .ok (.getfield 94, 3) := by decide +kernel
theorem dX5_errorOfAdding_51 : decode cX5_errorOfAdding 51 = .ok (.ifCond .eq 17, 3) := by decide +kernel
theorem dX5_errorOfAdding_54 : decode cX5_errorOfAdding 54 = .ok (.aload_n 0, 1) := by decide +kernel
theorem dX5_errorOfAdding_55 : decode cX5_errorOfAdding 55 = .ok (.getfield 11, 3) := by decide +kernel
theorem dX5_errorOfAdding_58 : decode cX5_errorOfAdding 58 = .ok (.iload_n 1, 1) := by decide +kernel
theorem dX5_errorOfAdding_59 : decode cX5_errorOfAdding 59 = .ok (.aaload, 1) := by decide +kernel
theorem dX5_errorOfAdding_60 : decode cX5_errorOfAdding 60 = .ok (.iload_n 2, 1) := by decide +kernel
theorem dX5_errorOfAdding_61 : decode cX5_errorOfAdding 61 = .ok (.iload_n 3, 1) := by decide +kernel
theorem dX5_errorOfAdding_62 : decode cX5_errorOfAdding 62 = .ok (.invokevirtual 97, 3) := by decide +kernel
theorem dX5_errorOfAdding_65 : decode cX5_errorOfAdding 65 = .ok (.ifCond .eq 6, 3) := by decide +kernel
theorem dX5_errorOfAdding_68 : decode cX5_errorOfAdding 68 = .ok (.bipush (-3), 2) := by decide +kernel
theorem dX5_errorOfAdding_70 : decode cX5_errorOfAdding 70 = .ok (.ireturn, 1) := by decide +kernel
theorem dX5_errorOfAdding_71 : decode cX5_errorOfAdding 71 = .ok (.aload_n 0, 1) := by decide +kernel
theorem dX5_errorOfAdding_72 : decode cX5_errorOfAdding 72 = .ok (.getfield 11, 3) := by decide +kernel
theorem dX5_errorOfAdding_75 : decode cX5_errorOfAdding 75 = .ok (.iload_n 1, 1) := by decide +kernel
theorem dX5_errorOfAdding_76 : decode cX5_errorOfAdding 76 = .ok (.aaload, 1) := by decide +kernel
theorem dX5_errorOfAdding_77 : decode cX5_errorOfAdding 77 = .ok (.getfield 59, 3) := by decide +kernel
theorem dX5_errorOfAdding_80 : decode cX5_errorOfAdding 80 = .ok (.iconst 5, 1) := by decide +kernel
theorem dX5_errorOfAdding_81 : decode cX5_errorOfAdding 81 = .ok (.if_icmp .lt 8, 3) := by decide +kernel
theorem dX5_errorOfAdding_84 : decode cX5_errorOfAdding 84 = .ok (.bipush (-4), 2) := by decide +kernel
theorem dX5_errorOfAdding_86 : decode cX5_errorOfAdding 86 = .ok (.goto 4, 3) := by decide +kernel
theorem dX5_errorOfAdding_89 : decode cX5_errorOfAdding 89 = .ok (.iconst 0, 1) := by decide +kernel
theorem dX5_errorOfAdding_90 : decode cX5_errorOfAdding 90 = .ok (.ireturn, 1) := by decide +kernel
theorem dX5_sayGoodbye_0 : decode cX5_sayGoodbye 0 = .ok (.aload_n 0, 1) := by decide +kernel
theorem dX5_sayGoodbye_1 : decode cX5_sayGoodbye 1 = .ok (.iload_n 1, 1) := by decide +kernel
theorem dX5_sayGoodbye_2 : decode cX5_sayGoodbye 2 = .ok (.iload_n 2, 1) := by decide +kernel
theorem dX5_sayGoodbye_3 : decode cX5_sayGoodbye 3 = .ok (.invokevirtual 100, 3) := by decide +kernel
theorem dX5_sayGoodbye_6 : decode cX5_sayGoodbye 6 = .ok (.ifCond .ne 6, 3) := by decide +kernel
theorem dX5_sayGoodbye_9 : decode cX5_sayGoodbye 9 = .ok (.bipush (-2), 2) := by decide +kernel
theorem dX5_sayGoodbye_11 : decode cX5_sayGoodbye 11 = .ok (.ireturn, 1) := by decide +kernel
theorem dX5_sayGoodbye_12 : decode cX5_sayGoodbye 12 = .ok (.aload_n 0, 1) := by decide +kernel
theorem dX5_sayGoodbye_13 : decode cX5_sayGoodbye 13 = .ok (.getfield 11, 3) := by decide +kernel
theorem dX5_sayGoodbye_16 : decode cX5_sayGoodbye 16 = .ok (.iload_n 1, 1) := by decide +kernel
theorem dX5_sayGoodbye_17 : decode cX5_sayGoodbye 17 = .ok (.aaload, 1) := by decide +kernel
theorem dX5_sayGoodbye_18 : decode cX5_sayGoodbye 18 = .ok (.getfield 94, 3) := by decide +kernel
theorem dX5_sayGoodbye_21 : decode cX5_sayGoodbye 21 = .ok (.ifCond .ne 6, 3) := by decide +kernel
theorem dX5_sayGoodbye_24 : decode cX5_sayGoodbye 24 = .ok (.bipush (-3), 2) := by decide +kernel
theorem dX5_sayGoodbye_26 : decode cX5_sayGoodbye 26 = .ok (.ireturn, 1) := by decide +kernel
theorem dX5_sayGoodbye_27 : decode cX5_sayGoodbye 27 = .ok (.aload_n 0, 1) := by decide +kernel
theorem dX5_sayGoodbye_28 : decode cX5_sayGoodbye 28 = .ok (.getfield 11, 3) := by decide +kernel
theorem dX5_sayGoodbye_31 : decode cX5_sayGoodbye 31 = .ok (.iload_n 1, 1) := by decide +kernel
theorem dX5_sayGoodbye_32 : decode cX5_sayGoodbye 32 = .ok (.aaload, 1) := by decide +kernel
theorem dX5_sayGoodbye_33 : decode cX5_sayGoodbye 33 = .ok (.iload_n 2, 1) := by decide +kernel
theorem dX5_sayGoodbye_34 : decode cX5_sayGoodbye 34 = .ok (.invokevirtual 103, 3) := by decide +kernel
theorem dX5_sayGoodbye_37 : decode cX5_sayGoodbye 37 = .ok (.astore_n 3, 1) := by decide +kernel
theorem dX5_sayGoodbye_38 : decode cX5_sayGoodbye 38 = .ok (.aload_n 3, 1) := by decide +kernel
theorem dX5_sayGoodbye_39 : decode cX5_sayGoodbye 39 = .ok (.invokevirtual 107, 3) := by decide +kernel
theorem dX5_sayGoodbye_42 : decode cX5_sayGoodbye 42 = .ok (.ifCond .eq 64, 3) := by decide +kernel
theorem dX5_sayGoodbye_45 : decode cX5_sayGoodbye 45 = .ok (.aload_n 0, 1) := by decide +kernel
theorem dX5_sayGoodbye_46 : decode cX5_sayGoodbye 46 = .ok (.dup, 1) := by decide +kernel
theorem dX5_sayGoodbye_47 : decode cX5_sayGoodbye 47 = .ok (.getfield 36, 3) := by decide +kernel
theorem dX5_sayGoodbye_50 : decode cX5_sayGoodbye 50 = .ok (.iconst 1, 1) := by decide +kernel
theorem dX5_sayGoodbye_51 : decode cX5_sayGoodbye 51 = .ok (.iadd, 1) := by decide +kernel
theorem dX5_sayGoodbye_52 : decode cX5_sayGoodbye 52 = .ok (.putfield 36, 3) := by decide +kernel
theorem dX5_sayGoodbye_55 : decode cX5_sayGoodbye 55 = .ok (.iconst 0, 1) := by decide +kernel
theorem dX5_sayGoodbye_56 : decode cX5_sayGoodbye 56 = .ok (.istore 4, 2) := by decide +kernel
theorem dX5_sayGoodbye_58 : decode cX5_sayGoodbye 58 = .ok (.iload 4, 2) := by decide +kernel
theorem dX5_sayGoodbye_60 : decode cX5_sayGoodbye 60 = .ok (.aload_n 0, 1) := by decide +kernel
theorem dX5_sayGoodbye_61 : decode cX5_sayGoodbye 61 = .ok (.getfield 25, 3) := by decide +kernel
theorem dX5_sayGoodbye_64 : decode cX5_sayGoodbye 64 = .ok (.if_icmp .ge 42, 3) := by decide +kernel
theorem dX5_sayGoodbye_67 : decode cX5_sayGoodbye 67 = .ok (.aload_n 0, 1) := by decide +kernel
theorem dX5_sayGoodbye_68 : decode cX5_sayGoodbye 68 = .ok (.getfield 11, 3) := by decide +kernel
theorem dX5_sayGoodbye_71 : decode cX5_sayGoodbye 71 = .ok (.iload 4, 2) := by decide +kernel
theorem dX5_sayGoodbye_73 : decode cX5_sayGoodbye 73 = .ok (.aaload, 1) := by decide +kernel
theorem dX5_sayGoodbye_74 : decode cX5_sayGoodbye 74 = .ok (.getfield 94, 3) := by decide +kernel
theorem dX5_sayGoodbye_77 : decode cX5_sayGoodbye 77 = .ok (.ifCond .eq 23, 3) := by decide +kernel
theorem dX5_sayGoodbye_80 : decode cX5_sayGoodbye 80 = .ok (.aload_n 0, 1) := by decide +kernel
theorem dX5_sayGoodbye_81 : decode cX5_sayGoodbye 81 = .ok (.getfield 11, 3) := by decide +kernel
theorem dX5_sayGoodbye_84 : decode cX5_sayGoodbye 84 = .ok (.iload 4, 2) := by decide +kernel
theorem dX5_sayGoodbye_86 : decode cX5_sayGoodbye 86 = .ok (.aaload, 1) := by decide +kernel
theorem dX5_sayGoodbye_87 : decode cX5_sayGoodbye 87 = .ok (.getfield 111, 3) := by decide +kernel
theorem dX5_sayGoodbye_90 : decode cX5_sayGoodbye 90 = .ok (.aload_n 3, 1) := by decide +kernel
theorem dX5_sayGoodbye_91 : decode cX5_sayGoodbye 91 = .ok (.aload_n 0, 1) := by decide +kernel
theorem dX5_sayGoodbye_92 : decode cX5_sayGoodbye 92 = .ok (.getfield 33, 3) := by decide +kernel
theorem dX5_sayGoodbye_95 : decode cX5_sayGoodbye 95 = .ok (.iconst 1, 1) := by decide +kernel
theorem dX5_sayGoodbye_96 : decode cX5_sayGoodbye 96 = .ok (.iadd, 1) := by decide +kernel
theorem dX5_sayGoodbye_97 : decode cX5_sayGoodbye 97 = .ok (.invokevirtual 115, 3) := by decide +kernel
theorem dX5_sayGoodbye_100 : decode cX5_sayGoodbye 100 = .ok (.iinc 4 1, 3) := by decide +kernel
theorem dX5_sayGoodbye_103 : decode cX5_sayGoodbye 103 = .ok (.goto (-45), 3) := by decide +kernel
theorem dX5_sayGoodbye_106 : decode cX5_sayGoodbye 106 = .ok (.aload_n 0, 1) := by decide +kernel
theorem dX5_sayGoodbye_107 : decode cX5_sayGoodbye 107 = .ok (.getfield 11, 3) := by decide +kernel
theorem dX5_sayGoodbye_110 : decode cX5_sayGoodbye 110 = .ok (.iload_n 1, 1) := by decide +kernel
theorem dX5_sayGoodbye_111 : decode cX5_sayGoodbye 111 = .ok (.aaload, 1) := by decide +kernel
theorem dX5_sayGoodbye_112 : decode cX5_sayGoodbye 112 = .ok (.getfield 59, 3) := by decide +kernel
theorem dX5_sayGoodbye_115 : decode cX5_sayGoodbye 115 = .ok (.ireturn, 1) := by decide +kernel
theorem dX5_announce_0 : decode cX5_announce 0 = .ok (.iconst 0, 1) := by decide +kernel
theorem dX5_announce_1 : decode cX5_announce 1 = .ok (.istore_n 3, 1) := by decide +kernel
theorem dX5_announce_2 : decode cX5_announce 2 = .ok (.iload_n 3, 1) := by decide +kernel
theorem dX5_announce_3 : decode cX5_announce 3 = .ok (.aload_n 0, 1) := by decide +kernel
theorem dX5_announce_4 : decode cX5_announce 4 = .ok (.getfield 25, 3) := by decide +kernel
theorem dX5_announce_7 : decode cX5_announce 7 = .ok (.if_icmp .ge 63, 3) := by decide +kernel
theorem dX5_announce_10 : decode cX5_announce 10 = .ok (.aload_n 0, 1) := by decide +kernel
theorem dX5_announce_11 : decode cX5_announce 11 = .ok (.getfield 11, 3) := by decide +kernel
theorem dX5_announce_14 : decode cX5_announce 14 = .ok (.iload_n 3, 1) := by decide +kernel
theorem dX5_announce_15 : decode cX5_announce 15 = .ok (.aaload, 1) := by decide +kernel
theorem dX5_announce_16 : decode cX5_announce 16 = .ok (.astore 4, 2) := by decide +kernel
theorem dX5_announce_18 : decode cX5_announce 18 = .ok (.iload_n 3, 1) := by decide +kernel
theorem dX5_announce_19 : decode cX5_announce 19 = .ok (.iload_n 1, 1) := by decide +kernel
theorem dX5_announce_20 : decode cX5_announce 20 = .ok (.if_icmp .eq 44, 3) := by decide +kernel
theorem dX5_announce_23 : decode cX5_announce 23 = .ok (.aload 4, 2) := by decide +kernel
theorem dX5_announce_25 : decode cX5_announce 25 = .ok (.getfield 94, 3) := by decide +kernel
theorem dX5_announce_28 : decode cX5_announce 28 = .ok (.ifCond .eq 36, 3) := by decide +kernel
theorem dX5_announce_31 : decode cX5_announce 31 = .ok (.aload 4, 2) := by decide +kernel
theorem dX5_announce_33 : decode cX5_announce 33 = .ok (.aload_n 2, 1) := by decide +kernel
theorem dX5_announce_34 : decode cX5_announce 34 = .ok (.getfield 121, 3) := by decide +kernel
theorem dX5_announce_37 : decode cX5_announce 37 = .ok (.aload_n 2, 1) := by decide +kernel
theorem dX5_announce_38 : decode cX5_announce 38 = .ok (.getfield 124, 3) := by decide +kernel
theorem dX5_announce_41 : decode cX5_announce 41 = .ok (.aload_n 2, 1) := by decide +kernel
theorem dX5_announce_42 : decode cX5_announce 42 = .ok (.getfield 127, 3) := by decide +kernel
theorem dX5_announce_45 : decode cX5_announce 45 = .ok (.invokevirtual 130, 3) := by decide +kernel
theorem dX5_announce_48 : decode cX5_announce 48 = .ok (.ifCond .ne 16, 3) := by decide +kernel
theorem dX5_announce_51 : decode cX5_announce 51 = .ok (.aload 4, 2) := by decide +kernel
theorem dX5_announce_53 : decode cX5_announce 53 = .ok (.getfield 111, 3) := by decide +kernel
theorem dX5_announce_56 : decode cX5_announce 56 = .ok (.aload_n 2, 1) := by decide +kernel
theorem dX5_announce_57 : decode cX5_announce 57 = .ok (.aload_n 0, 1) := by decide +kernel
theorem dX5_announce_58 : decode cX5_announce 58 = .ok (.getfield 33, 3) := by decide +kernel
theorem dX5_announce_61 : decode cX5_announce 61 = .ok (.invokevirtual 133, 3) := by decide +kernel
theorem dX5_announce_64 : decode cX5_announce 64 = .ok (.iinc 3 1, 3) := by decide +kernel
theorem dX5_announce_67 : decode cX5_announce 67 = .ok (.goto (-65), 3) := by decide +kernel
theorem dX5_announce_70 : decode cX5_announce 70 = .ok (.aload_n 0, 1) := by decide +kernel
theorem dX5_announce_71 : decode cX5_announce 71 = .ok (.dup, 1) := by decide +kernel
theorem dX5_announce_72 : decode cX5_announce 72 = .ok (.getfield 36, 3) := by decide +kernel
theorem dX5_announce_75 : decode cX5_announce 75 = .ok (.iconst 1, 1) := by decide +kernel
theorem dX5_announce_76 : decode cX5_announce 76 = .ok (.iadd, 1) := by decide +kernel
theorem dX5_announce_77 : decode cX5_announce 77 = .ok (.putfield 36, 3) := by decide +kernel
theorem dX5_announce_80 : decode cX5_announce 80 = .ok (.return_, 1) := by decide +kernel
theorem dX5_speakerFor_0 : decode cX5_speakerFor 0 = .ok (.aload_n 0, 1) := by decide +kernel
theorem dX5_speakerFor_1 : decode cX5_speakerFor 1 = .ok (.getfield 11, 3) := by decide +kernel
theorem dX5_speakerFor_4 : decode cX5_speakerFor 4 = .ok (.iload_n 1, 1) := by decide +kernel
theorem dX5_speakerFor_5 : decode cX5_speakerFor 5 = .ok (.aaload, 1) := by decide +kernel
theorem dX5_speakerFor_6 : decode cX5_speakerFor 6 = .ok (.astore_n 2, 1) := by decide +kernel
theorem dX5_speakerFor_7 : decode cX5_speakerFor 7 = .ok (.aload_n 2, 1) := by decide +kernel
theorem dX5_speakerFor_8 : decode cX5_speakerFor 8 = .ok (.getfield 94, 3) := by decide +kernel
theorem dX5_speakerFor_11 : decode cX5_speakerFor 11 = .ok (.ifCond .eq 5, 3) := by decide +kernel
theorem dX5_speakerFor_14 : decode cX5_speakerFor 14 = .ok (.iload_n 1, 1) := by decide +kernel
theorem dX5_speakerFor_15 : decode cX5_speakerFor 15 = .ok (.ireturn, 1) := by decide +kernel
theorem dX5_speakerFor_16 : decode cX5_speakerFor 16 = .ok (.aload_n 0, 1) := by decide +kernel
theorem dX5_speakerFor_17 : decode cX5_speakerFor 17 = .ok (.aload_n 2, 1) := by decide +kernel
theorem dX5_speakerFor_18 : decode cX5_speakerFor 18 = .ok (.getfield 136, 3) := by decide +kernel
theorem dX5_speakerFor_21 : decode cX5_speakerFor 21 = .ok (.invokevirtual 55, 3) := by decide +kernel
theorem dX5_speakerFor_24 : decode cX5_speakerFor 24 = .ok (.ifCond .eq 25, 3) := by decide +kernel
theorem dX5_speakerFor_27 : decode cX5_speakerFor 27 = .ok (.aload_n 0, 1) := by decide +kernel
theorem dX5_speakerFor_28 : decode cX5_speakerFor 28 = .ok (.getfield 11, 3) := by decide +kernel
theorem dX5_speakerFor_31 : decode cX5_speakerFor 31 = .ok (.aload_n 2, 1) := by decide +kernel
theorem dX5_speakerFor_32 : decode cX5_speakerFor 32 = .ok (.getfield 136, 3) := by decide +kernel
theorem dX5_speakerFor_35 : decode cX5_speakerFor 35 = .ok (.aaload, 1) := by decide +kernel
theorem dX5_speakerFor_36 : decode cX5_speakerFor 36 = .ok (.getfield 94, 3) := by decide +kernel
theorem dX5_speakerFor_39 : decode cX5_speakerFor 39 = .ok (.ifCond .eq 10, 3) := by decide +kernel
theorem dX5_speakerFor_42 : decode cX5_speakerFor 42 = .ok (.aload_n 2, 1) := by decide +kernel
theorem dX5_speakerFor_43 : decode cX5_speakerFor 43 = .ok (.getfield 136, 3) := by decide +kernel
theorem dX5_speakerFor_46 : decode cX5_speakerFor 46 = .ok (.goto 4, 3) := by decide +kernel
theorem dX5_speakerFor_49 : decode cX5_speakerFor 49 = .ok (.iconst (-1), 1) := by decide +kernel
theorem dX5_speakerFor_50 : decode cX5_speakerFor 50 = .ok (.ireturn, 1) := by decide +kernel
theorem dX5_isDefended_0 : decode cX5_isDefended 0 = .ok (.aload_n 2, 1) := by decide +kernel
theorem dX5_isDefended_1 : decode cX5_isDefended 1 = .ok (.getfield 77, 3) := by decide +kernel
theorem dX5_isDefended_4 : decode cX5_isDefended 4 = .ok (.ifCond .eq 23, 3) := by decide +kernel
theorem dX5_isDefended_7 : decode cX5_isDefended 7 = .ok (.aload_n 2, 1) := by decide +kernel
theorem dX5_isDefended_8 : decode cX5_isDefended 8 = .ok (.invokevirtual 107, 3) := by decide +kernel
theorem dX5_isDefended_11 : decode cX5_isDefended 11 = .ok (.ifCond .eq 16, 3) := by decide +kernel
theorem dX5_isDefended_14 : decode cX5_isDefended 14 = .ok (.aload_n 0, 1) := by decide +kernel
theorem dX5_isDefended_15 : decode cX5_isDefended 15 = .ok (.iload_n 1, 1) := by decide +kernel
theorem dX5_isDefended_16 : decode cX5_isDefended 16 = .ok (.invokevirtual 139, 3) := by decide +kernel
theorem dX5_isDefended_19 : decode cX5_isDefended 19 = .ok (.iconst (-1), 1) := by decide +kernel
theorem dX5_isDefended_20 : decode cX5_isDefended 20 = .ok (.if_icmp .eq 7, 3) := by decide +kernel
theorem dX5_isDefended_23 : decode cX5_isDefended 23 = .ok (.iconst 1, 1) := by decide +kernel
theorem dX5_isDefended_24 : decode cX5_isDefended 24 = .ok (.goto 4, 3) := by decide +kernel
theorem dX5_isDefended_27 : decode cX5_isDefended 27 = .ok (.iconst 0, 1) := by decide +kernel
theorem dX5_isDefended_28 : decode cX5_isDefended 28 = .ok (.ireturn, 1) := by decide +kernel
theorem dX5_passTicks_0 : decode cX5_passTicks 0 = .ok (.iload_n 1, 1) := by decide +kernel
theorem dX5_passTicks_1 : decode cX5_passTicks 1 = .ok (.iconst 1, 1) := by decide +kernel
theorem dX5_passTicks_2 : decode cX5_passTicks 2 = .ok (.bipush 60, 2) := by decide +kernel
theorem dX5_passTicks_4 : decode cX5_passTicks 4 = .ok (.invokestatic 62, 3) := by decide +kernel
theorem dX5_passTicks_7 : decode cX5_passTicks 7 = .ok (.ifCond .ne 6, 3) := by decide +kernel
theorem dX5_passTicks_10 : decode cX5_passTicks 10 = .ok (.bipush (-2), 2) := by decide +kernel
theorem dX5_passTicks_12 : decode cX5_passTicks 12 = .ok (.ireturn, 1) := by decide +kernel
theorem dX5_passTicks_13 : decode cX5_passTicks 13 = .ok (.aload_n 0, 1) := by decide +kernel
theorem dX5_passTicks_14 : decode cX5_passTicks 14 = .ok (.getfield 36, 3) := by decide +kernel
theorem dX5_passTicks_17 : decode cX5_passTicks 17 = .ok (.istore_n 2, 1) := by decide +kernel
theorem dX5_passTicks_18 : decode cX5_passTicks 18 = .ok (.iconst 0, 1) := by decide +kernel
theorem dX5_passTicks_19 : decode cX5_passTicks 19 = .ok (.istore_n 3, 1) := by decide +kernel
theorem dX5_passTicks_20 : decode cX5_passTicks 20 = .ok (.iload_n 3, 1) := by decide +kernel
theorem dX5_passTicks_21 : decode cX5_passTicks 21 = .ok (.iload_n 1, 1) := by decide +kernel
theorem dX5_passTicks_22 : decode cX5_passTicks 22 = .ok (.if_icmp .ge 78, 3) := by decide +kernel
theorem dX5_passTicks_25 : decode cX5_passTicks 25 = .ok (.aload_n 0, 1) := by decide +kernel
theorem dX5_passTicks_26 : decode cX5_passTicks 26 = .ok (.invokevirtual 143, 3) := by decide +kernel
theorem dX5_passTicks_29 : decode cX5_passTicks 29 = .ok (.iconst 0, 1) := by decide +kernel
theorem dX5_passTicks_30 : decode cX5_passTicks 30 = .ok (.istore 4, 2) := by decide +kernel
theorem dX5_passTicks_32 : decode cX5_passTicks 32 = .ok (.iload 4, 2) := by decide +kernel
theorem dX5_passTicks_34 : decode cX5_passTicks 34 = .ok (.aload_n 0, 1) := by decide +kernel
theorem dX5_passTicks_35 : decode cX5_passTicks 35 = .ok (.getfield 25, 3) := by decide +kernel
theorem dX5_passTicks_38 : decode cX5_passTicks 38 = .ok (.if_icmp .ge 52, 3) := by decide +kernel
theorem dX5_passTicks_41 : decode cX5_passTicks 41 = .ok (.iconst 0, 1) := by decide +kernel
theorem dX5_passTicks_42 : decode cX5_passTicks 42 = .ok (.istore 5, 2) := by decide +kernel
theorem dX5_passTicks_44 : decode cX5_passTicks 44 = .ok (.iload 5, 2) := by decide +kernel
theorem dX5_passTicks_46 : decode cX5_passTicks 46 = .ok (.aload_n 0, 1) := by decide +kernel
theorem dX5_passTicks_47 : decode cX5_passTicks 47 = .ok (.getfield 11, 3) := by decide +kernel
theorem dX5_passTicks_50 : decode cX5_passTicks 50 = .ok (.iload 4, 2) := by decide +kernel
theorem dX5_passTicks_52 : decode cX5_passTicks 52 = .ok (.aaload, 1) := by decide +kernel
theorem dX5_passTicks_53 : decode cX5_passTicks 53 = .ok (.getfield 59, 3) := by decide +kernel
theorem dX5_passTicks_56 : decode cX5_passTicks 56 = .ok (.if_icmp .ge 28, 3) := by decide +kernel
theorem dX5_passTicks_59 : decode cX5_passTicks 59 = .ok (.aload_n 0, 1) := by decide +kernel
theorem dX5_passTicks_60 : decode cX5_passTicks 60 = .ok (.iload 4, 2) := by decide +kernel
theorem dX5_passTicks_62 : decode cX5_passTicks 62 = .ok (.aload_n 0, 1) := by decide +kernel
theorem dX5_passTicks_63 : decode cX5_passTicks 63 = .ok (.getfield 11, 3) := by decide +kernel
theorem dX5_passTicks_66 : decode cX5_passTicks 66 = .ok (.iload 4, 2) := by decide +kernel
theorem dX5_passTicks_68 : decode cX5_passTicks 68 = .ok (.aaload, 1) := by decide +kernel
theorem dX5_passTicks_69 : decode cX5_passTicks 69 = .ok (.getfield 146, 3) := by decide +kernel
theorem dX5_passTicks_72 : decode cX5_passTicks 72 = .ok (.iload 5, 2) := by decide +kernel
theorem dX5_passTicks_74 : decode cX5_passTicks 74 = .ok (.aaload, 1) := by decide +kernel
theorem dX5_passTicks_75 : decode cX5_passTicks 75 = .ok (.invokevirtual 150, 3) := by decide +kernel
theorem dX5_passTicks_78 : decode cX5_passTicks 78 = .ok (.iinc 5 1, 3) := by decide +kernel
theorem dX5_passTicks_81 : decode cX5_passTicks 81 = .ok (.goto (-37), 3) := by decide +kernel
theorem dX5_passTicks_84 : decode cX5_passTicks 84 = .ok (.iinc 4 1, 3) := by decide +kernel
theorem dX5_passTicks_87 : decode cX5_passTicks 87 = .ok (.goto (-55), 3) := by decide +kernel
theorem dX5_passTicks_90 : decode cX5_passTicks 90 = .ok (.aload_n 0, 1) := by decide +kernel
theorem dX5_passTicks_91 : decode cX5_passTicks 91 = .ok (.invokevirtual 153, 3) := by decide +kernel
theorem dX5_passTicks_94 : decode cX5_passTicks 94 = .ok (.iinc 3 1, 3) := by decide +kernel
theorem dX5_passTicks_97 : decode cX5_passTicks 97 = .ok (.goto (-77), 3) := by decide +kernel
theorem dX5_passTicks_100 : decode cX5_passTicks 100 = .ok (.aload_n 0, 1) := by decide +kernel
theorem dX5_passTicks_101 : decode cX5_passTicks 101 = .ok (.getfield 36, 3) := by decide +kernel
theorem dX5_passTicks_104 : decode cX5_passTicks 104 = .ok (.iload_n 2, 1) := by decide +kernel
theorem dX5_passTicks_105 : decode cX5_passTicks 105 = .ok (.isub, 1) := by decide +kernel
theorem dX5_passTicks_106 : decode cX5_passTicks 106 = .ok (.ireturn, 1) := by decide +kernel
theorem dX5_beginTick_0 : decode cX5_beginTick 0 = .ok (.aload_n 0, 1) := by decide +kernel
theorem dX5_beginTick_1 : decode cX5_beginTick 1 = .ok (.dup, 1) := by decide +kernel
theorem dX5_beginTick_2 : decode cX5_beginTick 2 = .ok (.getfield 33, 3) := by decide +kernel
theorem dX5_beginTick_5 : decode cX5_beginTick 5 = .ok (.iconst 1, 1) := by decide +kernel
theorem dX5_beginTick_6 : decode cX5_beginTick 6 = .ok (.iadd, 1) := by decide +kernel
theorem dX5_beginTick_7 : decode cX5_beginTick 7 = .ok (.putfield 33, 3) := by decide +kernel
theorem dX5_beginTick_10 : decode cX5_beginTick 10 = .ok (.iconst 0, 1) := by decide +kernel
theorem dX5_beginTick_11 : decode cX5_beginTick 11 = .ok (.istore_n 1, 1) := by decide +kernel
theorem dX5_beginTick_12 : decode cX5_beginTick 12 = .ok (.iload_n 1, 1) := by decide +kernel
theorem dX5_beginTick_13 : decode cX5_beginTick 13 = .ok (.aload_n 0, 1) := by decide +kernel
theorem dX5_beginTick_14 : decode cX5_beginTick 14 = .ok (.getfield 25, 3) := by decide +kernel
theorem dX5_beginTick_17 : decode cX5_beginTick 17 = .ok (.if_icmp .ge 25, 3) := by decide +kernel
theorem dX5_beginTick_20 : decode cX5_beginTick 20 = .ok (.aload_n 0, 1) := by decide +kernel
theorem dX5_beginTick_21 : decode cX5_beginTick 21 = .ok (.getfield 11, 3) := by decide +kernel
theorem dX5_beginTick_24 : decode cX5_beginTick 24 = .ok (.iload_n 1, 1) := by decide +kernel
theorem dX5_beginTick_25 : decode cX5_beginTick 25 = .ok (.aaload, 1) := by decide +kernel
theorem dX5_beginTick_26 : decode cX5_beginTick 26 = .ok (.getfield 111, 3) := by decide +kernel
theorem dX5_beginTick_29 : decode cX5_beginTick 29 = .ok (.aload_n 0, 1) := by decide +kernel
theorem dX5_beginTick_30 : decode cX5_beginTick 30 = .ok (.getfield 33, 3) := by decide +kernel
theorem dX5_beginTick_33 : decode cX5_beginTick 33 = .ok (.invokevirtual 156, 3) := by decide +kernel
theorem dX5_beginTick_36 : decode cX5_beginTick 36 = .ok (.iinc 1 1, 3) := by decide +kernel
theorem dX5_beginTick_39 : decode cX5_beginTick 39 = .ok (.goto (-27), 3) := by decide +kernel
theorem dX5_beginTick_42 : decode cX5_beginTick 42 = .ok (.return_, 1) := by decide +kernel
theorem dX5_measureRate_0 : decode cX5_measureRate 0 = .ok (.aload_n 0, 1) := by decide +kernel
theorem dX5_measureRate_1 : decode cX5_measureRate 1 = .ok (.getfield 36, 3) := by decide +kernel
theorem dX5_measureRate_4 : decode cX5_measureRate 4 = .ok (.aload_n 0, 1) := by decide +kernel
theorem dX5_measureRate_5 : decode cX5_measureRate 5 = .ok (.getfield 39, 3) := by decide +kernel
theorem dX5_measureRate_8 : decode cX5_measureRate 8 = .ok (.isub, 1) := by decide +kernel
theorem dX5_measureRate_9 : decode cX5_measureRate 9 = .ok (.i2f, 1) := by decide +kernel
theorem dX5_measureRate_10 : decode cX5_measureRate 10 = .ok (.fstore_n 1, 1) := by decide +kernel
theorem dX5_measureRate_11 : decode cX5_measureRate 11 = .ok (.aload_n 0, 1) := by decide +kernel
theorem dX5_measureRate_12 : decode cX5_measureRate 12 = .ok (.aload_n 0, 1) := by decide +kernel
theorem dX5_measureRate_13 : decode cX5_measureRate 13 = .ok (.getfield 51, 3) := by decide +kernel
theorem dX5_measureRate_16 : decode cX5_measureRate 16 = .ok (.ldc 160, 2) := by decide +kernel
theorem dX5_measureRate_18 : decode cX5_measureRate 18 = .ok (.fmul, 1) := by decide +kernel
theorem dX5_measureRate_19 : decode cX5_measureRate 19 = .ok (.fload_n 1, 1) := by decide +kernel
theorem dX5_measureRate_20 : decode cX5_measureRate 20 = .ok (.ldc 161, 2) := by decide +kernel
theorem dX5_measureRate_22 : decode cX5_measureRate 22 = .ok (.fmul, 1) := by decide +kernel
theorem dX5_measureRate_23 : decode cX5_measureRate 23 = .ok (.fadd, 1) := by decide +kernel
theorem dX5_measureRate_24 : decode cX5_measureRate 24 = .ok (.putfield 51, 3) := by decide +kernel
theorem dX5_measureRate_27 : decode cX5_measureRate 27 = .ok (.aload_n 0, 1) := by decide +kernel
theorem dX5_measureRate_28 : decode cX5_measureRate 28 = .ok (.aload_n 0, 1) := by decide +kernel
theorem dX5_measureRate_29 : decode cX5_measureRate 29 = .ok (.getfield 36, 3) := by decide +kernel
theorem dX5_measureRate_32 : decode cX5_measureRate 32 = .ok (.putfield 39, 3) := by decide +kernel
theorem dX5_measureRate_35 : decode cX5_measureRate 35 = .ok (.return_, 1) := by decide +kernel
theorem dX5_advance_0 : decode cX5_advance 0 = .ok (.aload_n 0, 1) := by decide +kernel
theorem dX5_advance_1 : decode cX5_advance 1 = .ok (.getfield 11, 3) := by decide +kernel
theorem dX5_advance_4 : decode cX5_advance 4 = .ok (.iload_n 1, 1) := by decide +kernel
theorem dX5_advance_5 : decode cX5_advance 5 = .ok (.aaload, 1) := by decide +kernel
theorem dX5_advance_6 : decode cX5_advance 6 = .ok (.getfield 94, 3) := by decide +kernel
theorem dX5_advance_9 : decode cX5_advance 9 = .ok (.ifCond .eq 10, 3) := by decide +kernel
theorem dX5_advance_12 : decode cX5_advance 12 = .ok (.aload_n 2, 1) := by decide +kernel
theorem dX5_advance_13 : decode cX5_advance 13 = .ok (.invokevirtual 107, 3) := by decide +kernel
theorem dX5_advance_16 : decode cX5_advance 16 = .ok (.ifCond .eq 4, 3) := by decide +kernel
theorem dX5_advance_19 : decode cX5_advance 19 = .ok (.return_, 1) := by decide +kernel
theorem dX5_advance_20 : decode cX5_advance 20 = .ok (.aload_n 2, 1) := by decide +kernel
theorem dX5_advance_21 : decode cX5_advance 21 = .ok (.getfield 162, 3) := by decide +kernel
theorem dX5_advance_24 : decode cX5_advance 24 = .ok (.ifCond .le 14, 3) := by decide +kernel
theorem dX5_advance_27 : decode cX5_advance 27 = .ok (.aload_n 2, 1) := by decide +kernel
theorem dX5_advance_28 : decode cX5_advance 28 = .ok (.dup, 1) := by decide +kernel
theorem dX5_advance_29 : decode cX5_advance 29 = .ok (.getfield 162, 3) := by decide +kernel
theorem dX5_advance_32 : decode cX5_advance 32 = .ok (.iconst 1, 1) := by decide +kernel
theorem dX5_advance_33 : decode cX5_advance 33 = .ok (.isub, 1) := by decide +kernel
theorem dX5_advance_34 : decode cX5_advance 34 = .ok (.putfield 162, 3) := by decide +kernel
theorem dX5_advance_37 : decode cX5_advance 37 = .ok (.return_, 1) := by decide +kernel
theorem dX5_advance_38 : decode cX5_advance 38 = .ok (.aload_n 0, 1) := by decide +kernel
theorem dX5_advance_39 : decode cX5_advance 39 = .ok (.dup, 1) := by decide +kernel
theorem dX5_advance_40 : decode cX5_advance 40 = .ok (.getfield 42, 3) := by decide +kernel
theorem dX5_advance_43 : decode cX5_advance 43 = .ok (.iconst 1, 1) := by decide +kernel
theorem dX5_advance_44 : decode cX5_advance 44 = .ok (.iadd, 1) := by decide +kernel
theorem dX5_advance_45 : decode cX5_advance 45 = .ok (.putfield 42, 3) := by decide +kernel
theorem dX5_advance_48 : decode cX5_advance 48 = .ok (.aload_n 0, 1) := by decide +kernel
theorem dX5_advance_49 : decode cX5_advance 49 = .ok (.iload_n 1, 1) := by decide +kernel
theorem dX5_advance_50 : decode cX5_advance 50 = .ok (.aload_n 2, 1) := by decide +kernel
theorem dX5_advance_51 : decode cX5_advance 51 = .ok (.invokevirtual 165, 3) := by decide +kernel
theorem dX5_advance_54 : decode cX5_advance 54 = .ok (.ifCond .eq 34, 3) := by decide +kernel
theorem dX5_advance_57 : decode cX5_advance 57 = .ok (.aload_n 2, 1) := by decide +kernel
theorem dX5_advance_58 : decode cX5_advance 58 = .ok (.aload_n 2, 1) := by decide +kernel
theorem dX5_advance_59 : decode cX5_advance 59 = .ok (.getfield 121, 3) := by decide +kernel
theorem dX5_advance_62 : decode cX5_advance 62 = .ok (.iconst 1, 1) := by decide +kernel
theorem dX5_advance_63 : decode cX5_advance 63 = .ok (.iadd, 1) := by decide +kernel
theorem dX5_advance_64 : decode cX5_advance 64 = .ok (.bipush 16, 2) := by decide +kernel
theorem dX5_advance_66 : decode cX5_advance 66 = .ok (.irem, 1) := by decide +kernel
theorem dX5_advance_67 : decode cX5_advance 67 = .ok (.putfield 121, 3) := by decide +kernel
theorem dX5_advance_70 : decode cX5_advance 70 = .ok (.aload_n 2, 1) := by decide +kernel
theorem dX5_advance_71 : decode cX5_advance 71 = .ok (.iconst 0, 1) := by decide +kernel
theorem dX5_advance_72 : decode cX5_advance 72 = .ok (.invokevirtual 169, 3) := by decide +kernel
theorem dX5_advance_75 : decode cX5_advance 75 = .ok (.aload_n 0, 1) := by decide +kernel
theorem dX5_advance_76 : decode cX5_advance 76 = .ok (.dup, 1) := by decide +kernel
theorem dX5_advance_77 : decode cX5_advance 77 = .ok (.getfield 45, 3) := by decide +kernel
theorem dX5_advance_80 : decode cX5_advance 80 = .ok (.iconst 1, 1) := by decide +kernel
theorem dX5_advance_81 : decode cX5_advance 81 = .ok (.iadd, 1) := by decide +kernel
theorem dX5_advance_82 : decode cX5_advance 82 = .ok (.putfield 45, 3) := by decide +kernel
theorem dX5_advance_85 : decode cX5_advance 85 = .ok (.goto 43, 3) := by decide +kernel
theorem dX5_advance_88 : decode cX5_advance 88 = .ok (.aload_n 0, 1) := by decide +kernel
theorem dX5_advance_89 : decode cX5_advance 89 = .ok (.iload_n 1, 1) := by decide +kernel
theorem dX5_advance_90 : decode cX5_advance 90 = .ok (.aload_n 2, 1) := by decide +kernel
theorem dX5_advance_91 : decode cX5_advance 91 = .ok (.invokevirtual 172, 3) := by decide +kernel
theorem dX5_advance_94 : decode cX5_advance 94 = .ok (.ifCond .eq 11, 3) := by decide +kernel
theorem dX5_advance_97 : decode cX5_advance 97 = .ok (.aload_n 2, 1) := by decide +kernel
theorem dX5_advance_98 : decode cX5_advance 98 = .ok (.iconst 1, 1) := by decide +kernel
theorem dX5_advance_99 : decode cX5_advance 99 = .ok (.invokevirtual 169, 3) := by decide +kernel
theorem dX5_advance_102 : decode cX5_advance 102 = .ok (.goto 26, 3) := by decide +kernel
theorem dX5_advance_105 : decode cX5_advance 105 = .ok (.aload_n 2, 1) := by decide +kernel
theorem dX5_advance_106 : decode cX5_advance 106 = .ok (.dup, 1) := by decide +kernel
theorem dX5_advance_107 : decode cX5_advance 107 = .ok (.getfield 83, 3) := by decide +kernel
theorem dX5_advance_110 : decode cX5_advance 110 = .ok (.iconst 1, 1) := by decide +kernel
theorem dX5_advance_111 : decode cX5_advance 111 = .ok (.iadd, 1) := by decide +kernel
theorem dX5_advance_112 : decode cX5_advance 112 = .ok (.putfield 83, 3) := by decide +kernel
theorem dX5_advance_115 : decode cX5_advance 115 = .ok (.aload_n 2, 1) := by decide +kernel
theorem dX5_advance_116 : decode cX5_advance 116 = .ok (.invokevirtual 107, 3) := by decide +kernel
theorem dX5_advance_119 : decode cX5_advance 119 = .ok (.ifCond .eq 9, 3) := by decide +kernel
theorem dX5_advance_122 : decode cX5_advance 122 = .ok (.aload_n 0, 1) := by decide +kernel
theorem dX5_advance_123 : decode cX5_advance 123 = .ok (.iload_n 1, 1) := by decide +kernel
theorem dX5_advance_124 : decode cX5_advance 124 = .ok (.aload_n 2, 1) := by decide +kernel
theorem dX5_advance_125 : decode cX5_advance 125 = .ok (.invokevirtual 86, 3) := by decide +kernel
theorem dX5_advance_128 : decode cX5_advance 128 = .ok (.return_, 1) := by decide +kernel
theorem dX5_isTaken_0 : decode cX5_isTaken 0 = .ok (.iconst 0, 1) := by decide +kernel
theorem dX5_isTaken_1 : decode cX5_isTaken 1 = .ok (.istore_n 3, 1) := by decide +kernel
theorem dX5_isTaken_2 : decode cX5_isTaken 2 = .ok (.iload_n 3, 1) := by decide +kernel
theorem dX5_isTaken_3 : decode cX5_isTaken 3 = .ok (.aload_n 0, 1) := by decide +kernel
theorem dX5_isTaken_4 : decode cX5_isTaken 4 = .ok (.getfield 25, 3) := by decide +kernel
theorem dX5_isTaken_7 : decode cX5_isTaken 7 = .ok (.if_icmp .ge 38, 3) := by decide +kernel
theorem dX5_isTaken_10 : decode cX5_isTaken 10 = .ok (.iload_n 3, 1) := by decide +kernel
theorem dX5_isTaken_11 : decode cX5_isTaken 11 = .ok (.iload_n 1, 1) := by decide +kernel
theorem dX5_isTaken_12 : decode cX5_isTaken 12 = .ok (.if_icmp .eq 27, 3) := by decide +kernel
theorem dX5_isTaken_15 : decode cX5_isTaken 15 = .ok (.aload_n 0, 1) := by decide +kernel
theorem dX5_isTaken_16 : decode cX5_isTaken 16 = .ok (.iload_n 3, 1) := by decide +kernel
theorem dX5_isTaken_17 : decode cX5_isTaken 17 = .ok (.invokevirtual 139, 3) := by decide +kernel
theorem dX5_isTaken_20 : decode cX5_isTaken 20 = .ok (.iconst (-1), 1) := by decide +kernel
theorem dX5_isTaken_21 : decode cX5_isTaken 21 = .ok (.if_icmp .eq 18, 3) := by decide +kernel
theorem dX5_isTaken_24 : decode cX5_isTaken 24 = .ok (.aload_n 0, 1) := by decide +kernel
theorem dX5_isTaken_25 : decode cX5_isTaken 25 = .ok (.getfield 11, 3) := by decide +kernel
theorem dX5_isTaken_28 : decode cX5_isTaken 28 = .ok (.iload_n 3, 1) := by decide +kernel
theorem dX5_isTaken_29 : decode cX5_isTaken 29 = .ok (.aaload, 1) := by decide +kernel
theorem dX5_isTaken_30 : decode cX5_isTaken 30 = .ok (.aload_n 2, 1) := by decide +kernel
theorem dX5_isTaken_31 : decode cX5_isTaken 31 = .ok (.invokevirtual 175, 3) := by decide +kernel
theorem dX5_isTaken_34 : decode cX5_isTaken 34 = .ok (.ifCond .eq 5, 3) := by decide +kernel
theorem dX5_isTaken_37 : decode cX5_isTaken 37 = .ok (.iconst 1, 1) := by decide +kernel
theorem dX5_isTaken_38 : decode cX5_isTaken 38 = .ok (.ireturn, 1) := by decide +kernel
theorem dX5_isTaken_39 : decode cX5_isTaken 39 = .ok (.iinc 3 1, 3) := by decide +kernel
theorem dX5_isTaken_42 : decode cX5_isTaken 42 = .ok (.goto (-40), 3) := by decide +kernel
theorem dX5_isTaken_45 : decode cX5_isTaken 45 = .ok (.iconst 0, 1) := by decide +kernel
theorem dX5_isTaken_46 : decode cX5_isTaken 46 = .ok (.ireturn, 1) := by decide +kernel
theorem dX5_isOutbid_0 : decode cX5_isOutbid 0 = .ok (.iconst 0, 1) := by decide +kernel
theorem dX5_isOutbid_1 : decode cX5_isOutbid 1 = .ok (.istore_n 3, 1) := by decide +kernel
theorem dX5_isOutbid_2 : decode cX5_isOutbid 2 = .ok (.iload_n 3, 1) := by decide +kernel
theorem dX5_isOutbid_3 : decode cX5_isOutbid 3 = .ok (.aload_n 0, 1) := by decide +kernel
theorem dX5_isOutbid_4 : decode cX5_isOutbid 4 = .ok (.getfield 25, 3) := by decide +kernel
theorem dX5_isOutbid_7 : decode cX5_isOutbid 7 = .ok (.if_icmp .ge 41, 3) := by decide +kernel
theorem dX5_isOutbid_10 : decode cX5_isOutbid 10 = .ok (.iload_n 3, 1) := by decide +kernel
theorem dX5_isOutbid_11 : decode cX5_isOutbid 11 = .ok (.iload_n 1, 1) := by decide +kernel
theorem dX5_isOutbid_12 : decode cX5_isOutbid 12 = .ok (.if_icmp .eq 30, 3) := by decide +kernel
theorem dX5_isOutbid_15 : decode cX5_isOutbid 15 = .ok (.aload_n 0, 1) := by decide +kernel
theorem dX5_isOutbid_16 : decode cX5_isOutbid 16 = .ok (.getfield 11, 3) := by decide +kernel
theorem dX5_isOutbid_19 : decode cX5_isOutbid 19 = .ok (.iload_n 3, 1) := by decide +kernel
theorem dX5_isOutbid_20 : decode cX5_isOutbid 20 = .ok (.aaload, 1) := by decide +kernel
theorem dX5_isOutbid_21 : decode cX5_isOutbid 21 = .ok (.getfield 94, 3) := by decide +kernel
theorem dX5_isOutbid_24 : decode cX5_isOutbid 24 = .ok (.ifCond .eq 18, 3) := by decide +kernel
theorem dX5_isOutbid_27 : decode cX5_isOutbid 27 = .ok (.aload_n 0, 1) := by decide +kernel
theorem dX5_isOutbid_28 : decode cX5_isOutbid 28 = .ok (.getfield 11, 3) := by decide +kernel
theorem dX5_isOutbid_31 : decode cX5_isOutbid 31 = .ok (.iload_n 3, 1) := by decide +kernel
theorem dX5_isOutbid_32 : decode cX5_isOutbid 32 = .ok (.aaload, 1) := by decide +kernel
theorem dX5_isOutbid_33 : decode cX5_isOutbid 33 = .ok (.aload_n 2, 1) := by decide +kernel
theorem dX5_isOutbid_34 : decode cX5_isOutbid 34 = .ok (.invokevirtual 179, 3) := by decide +kernel
theorem dX5_isOutbid_37 : decode cX5_isOutbid 37 = .ok (.ifCond .eq 5, 3) := by decide +kernel
theorem dX5_isOutbid_40 : decode cX5_isOutbid 40 = .ok (.iconst 1, 1) := by decide +kernel
theorem dX5_isOutbid_41 : decode cX5_isOutbid 41 = .ok (.ireturn, 1) := by decide +kernel
theorem dX5_isOutbid_42 : decode cX5_isOutbid 42 = .ok (.iinc 3 1, 3) := by decide +kernel
theorem dX5_isOutbid_45 : decode cX5_isOutbid 45 = .ok (.goto (-43), 3) := by decide +kernel
theorem dX5_isOutbid_48 : decode cX5_isOutbid 48 = .ok (.iconst 0, 1) := by decide +kernel
theorem dX5_isOutbid_49 : decode cX5_isOutbid 49 = .ok (.ireturn, 1) := by decide +kernel
theorem dX5_ask_0 : decode cX5_ask 0 = .ok (.aload_n 0, 1) := by decide +kernel
theorem dX5_ask_1 : decode cX5_ask 1 = .ok (.iload_n 1, 1) := by decide +kernel
theorem dX5_ask_2 : decode cX5_ask 2 = .ok (.invokevirtual 55, 3) := by decide +kernel
theorem dX5_ask_5 : decode cX5_ask 5 = .ok (.ifCond .eq 11, 3) := by decide +kernel
theorem dX5_ask_8 : decode cX5_ask 8 = .ok (.iload_n 2, 1) := by decide +kernel
theorem dX5_ask_9 : decode cX5_ask 9 = .ok (.iload_n 3, 1) := by decide +kernel
theorem dX5_ask_10 : decode cX5_ask 10 = .ok (.invokestatic 90, 3) := by decide +kernel
theorem dX5_ask_13 : decode cX5_ask 13 = .ok (.ifCond .ne 6, 3) := by decide +kernel
theorem dX5_ask_16 : decode cX5_ask 16 = .ok (.bipush (-2), 2) := by decide +kernel
theorem dX5_ask_18 : decode cX5_ask 18 = .ok (.ireturn, 1) := by decide +kernel
theorem dX5_ask_19 : decode cX5_ask 19 = .ok (.aload_n 0, 1) := by decide +kernel
theorem dX5_ask_20 : decode cX5_ask 20 = .ok (.getfield 11, 3) := by decide +kernel
theorem dX5_ask_23 : decode cX5_ask 23 = .ok (.iload_n 1, 1) := by decide +kernel
theorem dX5_ask_24 : decode cX5_ask 24 = .ok (.aaload, 1) := by decide +kernel
theorem dX5_ask_25 : decode cX5_ask 25 = .ok (.getfield 94, 3) := by decide +kernel
theorem dX5_ask_28 : decode cX5_ask 28 = .ok (.ifCond .ne 6, 3) := by decide +kernel
theorem dX5_ask_31 : decode cX5_ask 31 = .ok (.bipush (-3), 2) := by decide +kernel
theorem dX5_ask_33 : decode cX5_ask 33 = .ok (.ireturn, 1) := by decide +kernel
theorem dX5_ask_34 : decode cX5_ask 34 = .ok (.aload_n 0, 1) := by decide +kernel
theorem dX5_ask_35 : decode cX5_ask 35 = .ok (.getfield 21, 3) := by decide +kernel
theorem dX5_ask_38 : decode cX5_ask 38 = .ok (.invokevirtual 182, 3) := by decide +kernel
theorem dX5_ask_41 : decode cX5_ask 41 = .ok (.aload_n 0, 1) := by decide +kernel
theorem dX5_ask_42 : decode cX5_ask 42 = .ok (.getfield 11, 3) := by decide +kernel
theorem dX5_ask_45 : decode cX5_ask 45 = .ok (.iload_n 1, 1) := by decide +kernel
theorem dX5_ask_46 : decode cX5_ask 46 = .ok (.aaload, 1) := by decide +kernel
theorem dX5_ask_47 : decode cX5_ask 47 = .ok (.getfield 111, 3) := by decide +kernel
theorem dX5_ask_50 : decode cX5_ask 50 = .ok (.iload_n 2, 1) := by decide +kernel
theorem dX5_ask_51 : decode cX5_ask 51 = .ok (.iload_n 3, 1) := by decide +kernel
theorem dX5_ask_52 : decode cX5_ask 52 = .ok (.aload_n 0, 1) := by decide +kernel
theorem dX5_ask_53 : decode cX5_ask 53 = .ok (.getfield 33, 3) := by decide +kernel
theorem dX5_ask_56 : decode cX5_ask 56 = .ok (.aload_n 0, 1) := by decide +kernel
theorem dX5_ask_57 : decode cX5_ask 57 = .ok (.getfield 21, 3) := by decide +kernel
theorem dX5_ask_60 : decode cX5_ask 60 = .ok (.invokevirtual 185, 3) := by decide +kernel
theorem dX5_ask_63 : decode cX5_ask 63 = .ok (.iconst 0, 1) := by decide +kernel
theorem dX5_ask_64 : decode cX5_ask 64 = .ok (.istore 4, 2) := by decide +kernel
theorem dX5_ask_66 : decode cX5_ask 66 = .ok (.iconst 0, 1) := by decide +kernel
theorem dX5_ask_67 : decode cX5_ask 67 = .ok (.istore 5, 2) := by decide +kernel
theorem dX5_ask_69 : decode cX5_ask 69 = .ok (.iload 5, 2) := by decide +kernel
theorem dX5_ask_71 : decode cX5_ask 71 = .ok (.aload_n 0, 1) := by decide +kernel
theorem dX5_ask_72 : decode cX5_ask 72 = .ok (.getfield 25, 3) := by decide +kernel
theorem dX5_ask_75 : decode cX5_ask 75 = .ok (.if_icmp .ge 28, 3) := by decide +kernel
theorem dX5_ask_78 : decode cX5_ask 78 = .ok (.iload 5, 2) := by decide +kernel
theorem dX5_ask_80 : decode cX5_ask 80 = .ok (.iload_n 1, 1) := by decide +kernel
theorem dX5_ask_81 : decode cX5_ask 81 = .ok (.if_icmp .eq 16, 3) := by decide +kernel
theorem dX5_ask_84 : decode cX5_ask 84 = .ok (.iload 4, 2) := by decide +kernel
theorem dX5_ask_86 : decode cX5_ask 86 = .ok (.aload_n 0, 1) := by decide +kernel
theorem dX5_ask_87 : decode cX5_ask 87 = .ok (.iload 5, 2) := by decide +kernel
theorem dX5_ask_89 : decode cX5_ask 89 = .ok (.iload_n 2, 1) := by decide +kernel
theorem dX5_ask_90 : decode cX5_ask 90 = .ok (.iload_n 3, 1) := by decide +kernel
theorem dX5_ask_91 : decode cX5_ask 91 = .ok (.invokevirtual 189, 3) := by decide +kernel
theorem dX5_ask_94 : decode cX5_ask 94 = .ok (.iadd, 1) := by decide +kernel
theorem dX5_ask_95 : decode cX5_ask 95 = .ok (.istore 4, 2) := by decide +kernel
theorem dX5_ask_97 : decode cX5_ask 97 = .ok (.iinc 5 1, 3) := by decide +kernel
theorem dX5_ask_100 : decode cX5_ask 100 = .ok (.goto (-31), 3) := by decide +kernel
theorem dX5_ask_103 : decode cX5_ask 103 = .ok (.iload 4, 2) := by decide +kernel
theorem dX5_ask_105 : decode cX5_ask 105 = .ok (.ireturn, 1) := by decide +kernel
theorem dX5_answerFor_0 : decode cX5_answerFor 0 = .ok (.aload_n 0, 1) := by decide +kernel
theorem dX5_answerFor_1 : decode cX5_answerFor 1 = .ok (.iload_n 1, 1) := by decide +kernel
theorem dX5_answerFor_2 : decode cX5_answerFor 2 = .ok (.invokevirtual 139, 3) := by decide +kernel
theorem dX5_answerFor_5 : decode cX5_answerFor 5 = .ok (.istore 4, 2) := by decide +kernel
theorem dX5_answerFor_7 : decode cX5_answerFor 7 = .ok (.iload 4, 2) := by decide +kernel
theorem dX5_answerFor_9 : decode cX5_answerFor 9 = .ok (.iconst (-1), 1) := by decide +kernel
theorem dX5_answerFor_10 : decode cX5_answerFor 10 = .ok (.if_icmp .ne 5, 3) := by decide +kernel
theorem dX5_answerFor_13 : decode cX5_answerFor 13 = .ok (.iconst 0, 1) := by decide +kernel
theorem dX5_answerFor_14 : decode cX5_answerFor 14 = .ok (.ireturn, 1) := by decide +kernel
theorem dX5_answerFor_15 : decode cX5_answerFor 15 = .ok (.iconst 0, 1) := by decide +kernel
theorem dX5_answerFor_16 : decode cX5_answerFor 16 = .ok (.istore 5, 2) := by decide +kernel
theorem dX5_answerFor_18 : decode cX5_answerFor 18 = .ok (.aload_n 0, 1) := by decide +kernel
theorem dX5_answerFor_19 : decode cX5_answerFor 19 = .ok (.getfield 11, 3) := by decide +kernel
theorem dX5_answerFor_22 : decode cX5_answerFor 22 = .ok (.iload_n 1, 1) := by decide +kernel
theorem dX5_answerFor_23 : decode cX5_answerFor 23 = .ok (.aaload, 1) := by decide +kernel
theorem dX5_answerFor_24 : decode cX5_answerFor 24 = .ok (.astore 6, 2) := by decide +kernel
theorem dX5_answerFor_26 : decode cX5_answerFor 26 = .ok (.iconst 0, 1) := by decide +kernel
theorem dX5_answerFor_27 : decode cX5_answerFor 27 = .ok (.istore 7, 2) := by decide +kernel
theorem dX5_answerFor_29 : decode cX5_answerFor 29 = .ok (.iload 7, 2) := by decide +kernel
theorem dX5_answerFor_31 : decode cX5_answerFor 31 = .ok (.aload 6, 2) := by decide +kernel
theorem dX5_answerFor_33 : decode cX5_answerFor 33 = .ok (.getfield 59, 3) := by decide +kernel
theorem dX5_answerFor_36 : decode cX5_answerFor 36 = .ok (.if_icmp .ge 91, 3) := by decide +kernel
theorem dX5_answerFor_39 : decode cX5_answerFor 39 = .ok (.aload 6, 2) := by decide +kernel
theorem dX5_answerFor_41 : decode cX5_answerFor 41 = .ok (.getfield 146, 3) := by decide +kernel
theorem dX5_answerFor_44 : decode cX5_answerFor 44 = .ok (.iload 7, 2) := by decide +kernel
theorem dX5_answerFor_46 : decode cX5_answerFor 46 = .ok (.aaload, 1) := by decide +kernel
theorem dX5_answerFor_47 : decode cX5_answerFor 47 = .ok (.astore 8, 2) := by decide +kernel
theorem dX5_answerFor_49 : decode cX5_answerFor 49 = .ok (.aload 8, 2) := by decide +kernel
theorem dX5_answerFor_51 : decode cX5_answerFor 51 = .ok (.invokevirtual 107, 3) := by decide +kernel
theorem dX5_answerFor_54 : decode cX5_answerFor 54 = .ok (.ifCond .eq 67, 3) := by decide +kernel
theorem dX5_answerFor_57 : decode cX5_answerFor 57 = .ok (.aload 8, 2) := by decide +kernel
theorem dX5_answerFor_59 : decode cX5_answerFor 59 = .ok (.iload_n 2, 1) := by decide +kernel
theorem dX5_answerFor_60 : decode cX5_answerFor 60 = .ok (.iload_n 3, 1) := by decide +kernel
theorem dX5_answerFor_61 : decode cX5_answerFor 61 = .ok (.invokevirtual 193, 3) := by decide +kernel
theorem dX5_answerFor_64 : decode cX5_answerFor 64 = .ok (.ifCond .ne 6, 3) := by decide +kernel
theorem dX5_answerFor_67 : decode cX5_answerFor 67 = .ok (.goto 54, 3) := by decide +kernel
theorem dX5_answerFor_70 : decode cX5_answerFor 70 = .ok (.aload_n 0, 1) := by decide +kernel
theorem dX5_answerFor_71 : decode cX5_answerFor 71 = .ok (.getfield 21, 3) := by decide +kernel
theorem dX5_answerFor_74 : decode cX5_answerFor 74 = .ok (.aload 8, 2) := by decide +kernel
theorem dX5_answerFor_76 : decode cX5_answerFor 76 = .ok (.getfield 127, 3) := by decide +kernel
theorem dX5_answerFor_79 : decode cX5_answerFor 79 = .ok (.invokevirtual 196, 3) := by decide +kernel
theorem dX5_answerFor_82 : decode cX5_answerFor 82 = .ok (.ifCond .eq 16, 3) := by decide +kernel
theorem dX5_answerFor_85 : decode cX5_answerFor 85 = .ok (.aload_n 0, 1) := by decide +kernel
theorem dX5_answerFor_86 : decode cX5_answerFor 86 = .ok (.dup, 1) := by decide +kernel
theorem dX5_answerFor_87 : decode cX5_answerFor 87 = .ok (.getfield 48, 3) := by decide +kernel
theorem dX5_answerFor_90 : decode cX5_answerFor 90 = .ok (.iconst 1, 1) := by decide +kernel
theorem dX5_answerFor_91 : decode cX5_answerFor 91 = .ok (.iadd, 1) := by decide +kernel
theorem dX5_answerFor_92 : decode cX5_answerFor 92 = .ok (.putfield 48, 3) := by decide +kernel
theorem dX5_answerFor_95 : decode cX5_answerFor 95 = .ok (.goto 26, 3) := by decide +kernel
theorem dX5_answerFor_98 : decode cX5_answerFor 98 = .ok (.aload_n 0, 1) := by decide +kernel
theorem dX5_answerFor_99 : decode cX5_answerFor 99 = .ok (.getfield 21, 3) := by decide +kernel
theorem dX5_answerFor_102 : decode cX5_answerFor 102 = .ok (.aload 8, 2) := by decide +kernel
theorem dX5_answerFor_104 : decode cX5_answerFor 104 = .ok (.getfield 127, 3) := by decide +kernel
theorem dX5_answerFor_107 : decode cX5_answerFor 107 = .ok (.invokevirtual 198, 3) := by decide +kernel
theorem dX5_answerFor_110 : decode cX5_answerFor 110 = .ok (.aload_n 0, 1) := by decide +kernel
theorem dX5_answerFor_111 : decode cX5_answerFor 111 = .ok (.iload 4, 2) := by decide +kernel
theorem dX5_answerFor_113 : decode cX5_answerFor 113 = .ok (.aload 8, 2) := by decide +kernel
theorem dX5_answerFor_115 : decode cX5_answerFor 115 = .ok (.invokevirtual 86, 3) := by decide +kernel
theorem dX5_answerFor_118 : decode cX5_answerFor 118 = .ok (.iinc 5 1, 3) := by decide +kernel
theorem dX5_answerFor_121 : decode cX5_answerFor 121 = .ok (.iinc 7 1, 3) := by decide +kernel
theorem dX5_answerFor_124 : decode cX5_answerFor 124 = .ok (.goto (-95), 3) := by decide +kernel
theorem dX5_answerFor_127 : decode cX5_answerFor 127 = .ok (.iload 5, 2) := by decide +kernel
theorem dX5_answerFor_129 : decode cX5_answerFor 129 = .ok (.ireturn, 1) := by decide +kernel
theorem dX5_fallAsleep_0 : decode cX5_fallAsleep 0 = .ok (.aload_n 0, 1) := by decide +kernel
theorem dX5_fallAsleep_1 : decode cX5_fallAsleep 1 = .ok (.iload_n 1, 1) := by decide +kernel
theorem dX5_fallAsleep_2 : decode cX5_fallAsleep 2 = .ok (.invokevirtual 55, 3) := by decide +kernel
theorem dX5_fallAsleep_5 : decode cX5_fallAsleep 5 = .ok (.ifCond .eq 21, 3) := by decide +kernel
theorem dX5_fallAsleep_8 : decode cX5_fallAsleep 8 = .ok (.iload_n 2, 1) := by decide +kernel
theorem dX5_fallAsleep_9 : decode cX5_fallAsleep 9 = .ok (.iload_n 1, 1) := by decide +kernel
theorem dX5_fallAsleep_10 : decode cX5_fallAsleep 10 = .ok (.if_icmp .eq 16, 3) := by decide +kernel
theorem dX5_fallAsleep_13 : decode cX5_fallAsleep 13 = .ok (.iload_n 2, 1) := by decide +kernel
theorem dX5_fallAsleep_14 : decode cX5_fallAsleep 14 = .ok (.iconst (-1), 1) := by decide +kernel
theorem dX5_fallAsleep_15 : decode cX5_fallAsleep 15 = .ok (.if_icmp .eq 14, 3) := by decide +kernel
theorem dX5_fallAsleep_18 : decode cX5_fallAsleep 18 = .ok (.aload_n 0, 1) := by decide +kernel
theorem dX5_fallAsleep_19 : decode cX5_fallAsleep 19 = .ok (.iload_n 2, 1) := by decide +kernel
theorem dX5_fallAsleep_20 : decode cX5_fallAsleep 20 = .ok (.invokevirtual 55, 3) := by decide +kernel
theorem dX5_fallAsleep_23 : decode cX5_fallAsleep 23 = .ok (.ifCond .ne 6, 3) := by decide +kernel
theorem dX5_fallAsleep_26 : decode cX5_fallAsleep 26 = .ok (.bipush (-2), 2) := by decide +kernel
theorem dX5_fallAsleep_28 : decode cX5_fallAsleep 28 = .ok (.ireturn, 1) := by decide +kernel
theorem dX5_fallAsleep_29 : decode cX5_fallAsleep 29 = .ok (.aload_n 0, 1) := by decide +kernel
theorem dX5_fallAsleep_30 : decode cX5_fallAsleep 30 = .ok (.getfield 11, 3) := by decide +kernel
theorem dX5_fallAsleep_33 : decode cX5_fallAsleep 33 = .ok (.iload_n 1, 1) := by decide +kernel
theorem dX5_fallAsleep_34 : decode cX5_fallAsleep 34 = .ok (.aaload, 1) := by decide +kernel
theorem dX5_fallAsleep_35 : decode cX5_fallAsleep 35 = .ok (.getfield 94, 3) := by decide +kernel
theorem dX5_fallAsleep_38 : decode cX5_fallAsleep 38 = .ok (.ifCond .eq 23, 3) := by decide +kernel
theorem dX5_fallAsleep_41 : decode cX5_fallAsleep 41 = .ok (.aload_n 0, 1) := by decide +kernel
theorem dX5_fallAsleep_42 : decode cX5_fallAsleep 42 = .ok (.iload_n 2, 1) := by decide +kernel
theorem dX5_fallAsleep_43 : decode cX5_fallAsleep 43 = .ok (.invokevirtual 55, 3) := by decide +kernel
theorem dX5_fallAsleep_46 : decode cX5_fallAsleep 46 = .ok (.ifCond .eq 18, 3) := by decide +kernel
theorem dX5_fallAsleep_49 : decode cX5_fallAsleep 49 = .ok (.aload_n 0, 1) := by decide +kernel
theorem dX5_fallAsleep_50 : decode cX5_fallAsleep 50 = .ok (.getfield 11, 3) := by decide +kernel
theorem dX5_fallAsleep_53 : decode cX5_fallAsleep 53 = .ok (.iload_n 2, 1) := by decide +kernel
theorem dX5_fallAsleep_54 : decode cX5_fallAsleep 54 = .ok (.aaload, 1) := by decide +kernel
theorem dX5_fallAsleep_55 : decode cX5_fallAsleep 55 = .ok (.getfield 94, 3) := by decide +kernel
theorem dX5_fallAsleep_58 : decode cX5_fallAsleep 58 = .ok (.ifCond .ne 6, 3) := by decide +kernel
theorem dX5_fallAsleep_61 : decode cX5_fallAsleep 61 = .ok (.bipush (-3), 2) := by decide +kernel
theorem dX5_fallAsleep_63 : decode cX5_fallAsleep 63 = .ok (.ireturn, 1) := by decide +kernel
theorem dX5_fallAsleep_64 : decode cX5_fallAsleep 64 = .ok (.aload_n 0, 1) := by decide +kernel
theorem dX5_fallAsleep_65 : decode cX5_fallAsleep 65 = .ok (.getfield 11, 3) := by decide +kernel
theorem dX5_fallAsleep_68 : decode cX5_fallAsleep 68 = .ok (.iload_n 1, 1) := by decide +kernel
theorem dX5_fallAsleep_69 : decode cX5_fallAsleep 69 = .ok (.aaload, 1) := by decide +kernel
theorem dX5_fallAsleep_70 : decode cX5_fallAsleep 70 = .ok (.iconst 0, 1) := by decide +kernel
theorem dX5_fallAsleep_71 : decode cX5_fallAsleep 71 = .ok (.putfield 94, 3) := by decide +kernel
theorem dX5_fallAsleep_74 : decode cX5_fallAsleep 74 = .ok (.aload_n 0, 1) := by decide +kernel
theorem dX5_fallAsleep_75 : decode cX5_fallAsleep 75 = .ok (.getfield 11, 3) := by decide +kernel
theorem dX5_fallAsleep_78 : decode cX5_fallAsleep 78 = .ok (.iload_n 1, 1) := by decide +kernel
theorem dX5_fallAsleep_79 : decode cX5_fallAsleep 79 = .ok (.aaload, 1) := by decide +kernel
theorem dX5_fallAsleep_80 : decode cX5_fallAsleep 80 = .ok (.iload_n 2, 1) := by decide +kernel
theorem dX5_fallAsleep_81 : decode cX5_fallAsleep 81 = .ok (.putfield 136, 3) := by decide +kernel
theorem dX5_fallAsleep_84 : decode cX5_fallAsleep 84 = .ok (.aload_n 0, 1) := by decide +kernel
theorem dX5_fallAsleep_85 : decode cX5_fallAsleep 85 = .ok (.getfield 11, 3) := by decide +kernel
theorem dX5_fallAsleep_88 : decode cX5_fallAsleep 88 = .ok (.iload_n 1, 1) := by decide +kernel
theorem dX5_fallAsleep_89 : decode cX5_fallAsleep 89 = .ok (.aaload, 1) := by decide +kernel
theorem dX5_fallAsleep_90 : decode cX5_fallAsleep 90 = .ok (.invokevirtual 200, 3) := by decide +kernel
theorem dX5_fallAsleep_93 : decode cX5_fallAsleep 93 = .ok (.ireturn, 1) := by decide +kernel
theorem dX5_wakeUp_0 : decode cX5_wakeUp 0 = .ok (.aload_n 0, 1) := by decide +kernel
theorem dX5_wakeUp_1 : decode cX5_wakeUp 1 = .ok (.iload_n 1, 1) := by decide +kernel
theorem dX5_wakeUp_2 : decode cX5_wakeUp 2 = .ok (.invokevirtual 55, 3) := by decide +kernel
theorem dX5_wakeUp_5 : decode cX5_wakeUp 5 = .ok (.ifCond .ne 6, 3) := by decide +kernel
theorem dX5_wakeUp_8 : decode cX5_wakeUp 8 = .ok (.bipush (-2), 2) := by decide +kernel
theorem dX5_wakeUp_10 : decode cX5_wakeUp 10 = .ok (.ireturn, 1) := by decide +kernel
theorem dX5_wakeUp_11 : decode cX5_wakeUp 11 = .ok (.aload_n 0, 1) := by decide +kernel
theorem dX5_wakeUp_12 : decode cX5_wakeUp 12 = .ok (.getfield 11, 3) := by decide +kernel
theorem dX5_wakeUp_15 : decode cX5_wakeUp 15 = .ok (.iload_n 1, 1) := by decide +kernel
theorem dX5_wakeUp_16 : decode cX5_wakeUp 16 = .ok (.aaload, 1) := by decide +kernel
theorem dX5_wakeUp_17 : decode cX5_wakeUp 17 = .ok (.astore_n 2, 1) := by decide +kernel
theorem dX5_wakeUp_18 : decode cX5_wakeUp 18 = .ok (.aload_n 2, 1) := by decide +kernel
theorem dX5_wakeUp_19 : decode cX5_wakeUp 19 = .ok (.getfield 94, 3) := by decide +kernel
theorem dX5_wakeUp_22 : decode cX5_wakeUp 22 = .ok (.ifCond .eq 6, 3) := by decide +kernel
theorem dX5_wakeUp_25 : decode cX5_wakeUp 25 = .ok (.bipush (-3), 2) := by decide +kernel
theorem dX5_wakeUp_27 : decode cX5_wakeUp 27 = .ok (.ireturn, 1) := by decide +kernel
theorem dX5_wakeUp_28 : decode cX5_wakeUp 28 = .ok (.aload_n 2, 1) := by decide +kernel
theorem dX5_wakeUp_29 : decode cX5_wakeUp 29 = .ok (.iconst 1, 1) := by decide +kernel
theorem dX5_wakeUp_30 : decode cX5_wakeUp 30 = .ok (.putfield 94, 3) := by decide +kernel
theorem dX5_wakeUp_33 : decode cX5_wakeUp 33 = .ok (.aload_n 2, 1) := by decide +kernel
theorem dX5_wakeUp_34 : decode cX5_wakeUp 34 = .ok (.iconst (-1), 1) := by decide +kernel
theorem dX5_wakeUp_35 : decode cX5_wakeUp 35 = .ok (.putfield 136, 3) := by decide +kernel
theorem dX5_wakeUp_38 : decode cX5_wakeUp 38 = .ok (.iconst 0, 1) := by decide +kernel
theorem dX5_wakeUp_39 : decode cX5_wakeUp 39 = .ok (.istore_n 3, 1) := by decide +kernel
theorem dX5_wakeUp_40 : decode cX5_wakeUp 40 = .ok (.iconst 0, 1) := by decide +kernel
theorem dX5_wakeUp_41 : decode cX5_wakeUp 41 = .ok (.istore 4, 2) := by decide +kernel
theorem dX5_wakeUp_43 : decode cX5_wakeUp 43 = .ok (.iload 4, 2) := by decide +kernel
theorem dX5_wakeUp_45 : decode cX5_wakeUp 45 = .ok (.aload_n 2, 1) := by decide +kernel
theorem dX5_wakeUp_46 : decode cX5_wakeUp 46 = .ok (.getfield 59, 3) := by decide +kernel
theorem dX5_wakeUp_49 : decode cX5_wakeUp 49 = .ok (.if_icmp .ge 66, 3) := by decide +kernel
theorem dX5_wakeUp_52 : decode cX5_wakeUp 52 = .ok (.aload_n 2, 1) := by decide +kernel
theorem dX5_wakeUp_53 : decode cX5_wakeUp 53 = .ok (.getfield 146, 3) := by decide +kernel
theorem dX5_wakeUp_56 : decode cX5_wakeUp 56 = .ok (.iload 4, 2) := by decide +kernel
theorem dX5_wakeUp_58 : decode cX5_wakeUp 58 = .ok (.aaload, 1) := by decide +kernel
theorem dX5_wakeUp_59 : decode cX5_wakeUp 59 = .ok (.astore 5, 2) := by decide +kernel
theorem dX5_wakeUp_61 : decode cX5_wakeUp 61 = .ok (.aload 5, 2) := by decide +kernel
theorem dX5_wakeUp_63 : decode cX5_wakeUp 63 = .ok (.invokevirtual 107, 3) := by decide +kernel
theorem dX5_wakeUp_66 : decode cX5_wakeUp 66 = .ok (.ifCond .ne 6, 3) := by decide +kernel
theorem dX5_wakeUp_69 : decode cX5_wakeUp 69 = .ok (.goto 40, 3) := by decide +kernel
theorem dX5_wakeUp_72 : decode cX5_wakeUp 72 = .ok (.aload 5, 2) := by decide +kernel
theorem dX5_wakeUp_74 : decode cX5_wakeUp 74 = .ok (.getfield 77, 3) := by decide +kernel
theorem dX5_wakeUp_77 : decode cX5_wakeUp 77 = .ok (.ifCond .eq 22, 3) := by decide +kernel
theorem dX5_wakeUp_80 : decode cX5_wakeUp 80 = .ok (.aload_n 0, 1) := by decide +kernel
theorem dX5_wakeUp_81 : decode cX5_wakeUp 81 = .ok (.iload_n 1, 1) := by decide +kernel
theorem dX5_wakeUp_82 : decode cX5_wakeUp 82 = .ok (.aload 5, 2) := by decide +kernel
theorem dX5_wakeUp_84 : decode cX5_wakeUp 84 = .ok (.invokevirtual 165, 3) := by decide +kernel
theorem dX5_wakeUp_87 : decode cX5_wakeUp 87 = .ok (.ifCond .eq 12, 3) := by decide +kernel
theorem dX5_wakeUp_90 : decode cX5_wakeUp 90 = .ok (.aload 5, 2) := by decide +kernel
theorem dX5_wakeUp_92 : decode cX5_wakeUp 92 = .ok (.iconst 0, 1) := by decide +kernel
theorem dX5_wakeUp_93 : decode cX5_wakeUp 93 = .ok (.invokevirtual 169, 3) := by decide +kernel
theorem dX5_wakeUp_96 : decode cX5_wakeUp 96 = .ok (.goto 13, 3) := by decide +kernel
theorem dX5_wakeUp_99 : decode cX5_wakeUp 99 = .ok (.aload_n 0, 1) := by decide +kernel
theorem dX5_wakeUp_100 : decode cX5_wakeUp 100 = .ok (.iload_n 1, 1) := by decide +kernel
theorem dX5_wakeUp_101 : decode cX5_wakeUp 101 = .ok (.aload 5, 2) := by decide +kernel
theorem dX5_wakeUp_103 : decode cX5_wakeUp 103 = .ok (.invokevirtual 86, 3) := by decide +kernel
theorem dX5_wakeUp_106 : decode cX5_wakeUp 106 = .ok (.iinc 3 1, 3) := by decide +kernel
theorem dX5_wakeUp_109 : decode cX5_wakeUp 109 = .ok (.iinc 4 1, 3) := by decide +kernel
theorem dX5_wakeUp_112 : decode cX5_wakeUp 112 = .ok (.goto (-69), 3) := by decide +kernel
theorem dX5_wakeUp_115 : decode cX5_wakeUp 115 = .ok (.iload_n 3, 1) := by decide +kernel
theorem dX5_wakeUp_116 : decode cX5_wakeUp 116 = .ok (.ireturn, 1) := by decide +kernel
theorem dX5_recordProperty_0 : decode cX5_recordProperty 0 = .ok (.aload_n 0, 1) := by decide +kernel
theorem dX5_recordProperty_1 : decode cX5_recordProperty 1 = .ok (.iload_n 1, 1) := by decide +kernel
theorem dX5_recordProperty_2 : decode cX5_recordProperty 2 = .ok (.iload_n 2, 1) := by decide +kernel
theorem dX5_recordProperty_3 : decode cX5_recordProperty 3 = .ok (.invokevirtual 100, 3) := by decide +kernel
theorem dX5_recordProperty_6 : decode cX5_recordProperty 6 = .ok (.ifCond .ne 6, 3) := by decide +kernel
theorem dX5_recordProperty_9 : decode cX5_recordProperty 9 = .ok (.bipush (-2), 2) := by decide +kernel
theorem dX5_recordProperty_11 : decode cX5_recordProperty 11 = .ok (.ireturn, 1) := by decide +kernel
theorem dX5_recordProperty_12 : decode cX5_recordProperty 12 = .ok (.aload_n 0, 1) := by decide +kernel
theorem dX5_recordProperty_13 : decode cX5_recordProperty 13 = .ok (.getfield 11, 3) := by decide +kernel
theorem dX5_recordProperty_16 : decode cX5_recordProperty 16 = .ok (.iload_n 1, 1) := by decide +kernel
theorem dX5_recordProperty_17 : decode cX5_recordProperty 17 = .ok (.aaload, 1) := by decide +kernel
theorem dX5_recordProperty_18 : decode cX5_recordProperty 18 = .ok (.getfield 146, 3) := by decide +kernel
theorem dX5_recordProperty_21 : decode cX5_recordProperty 21 = .ok (.iload_n 2, 1) := by decide +kernel
theorem dX5_recordProperty_22 : decode cX5_recordProperty 22 = .ok (.aaload, 1) := by decide +kernel
theorem dX5_recordProperty_23 : decode cX5_recordProperty 23 = .ok (.astore 4, 2) := by decide +kernel
theorem dX5_recordProperty_25 : decode cX5_recordProperty 25 = .ok (.iload_n 3, 1) := by decide +kernel
theorem dX5_recordProperty_26 : decode cX5_recordProperty 26 = .ok (.tableswitch 102 0 7 #[46, 52, 58, 64, 70, 76, 82, 91], 46) := by decide +kernel
theorem dX5_recordProperty_72 : decode cX5_recordProperty 72 = .ok (.aload 4, 2) := by decide +kernel
theorem dX5_recordProperty_74 : decode cX5_recordProperty 74 = .ok (.getfield 121, 3) := by decide +kernel
theorem dX5_recordProperty_77 : decode cX5_recordProperty 77 = .ok (.ireturn, 1) := by decide +kernel
theorem dX5_recordProperty_78 : decode cX5_recordProperty 78 = .ok (.aload 4, 2) := by decide +kernel
theorem dX5_recordProperty_80 : decode cX5_recordProperty 80 = .ok (.getfield 124, 3) := by decide +kernel
theorem dX5_recordProperty_83 : decode cX5_recordProperty 83 = .ok (.ireturn, 1) := by decide +kernel
theorem dX5_recordProperty_84 : decode cX5_recordProperty 84 = .ok (.aload 4, 2) := by decide +kernel
theorem dX5_recordProperty_86 : decode cX5_recordProperty 86 = .ok (.getfield 127, 3) := by decide +kernel
theorem dX5_recordProperty_89 : decode cX5_recordProperty 89 = .ok (.ireturn, 1) := by decide +kernel
theorem dX5_recordProperty_90 : decode cX5_recordProperty 90 = .ok (.aload 4, 2) := by decide +kernel
theorem dX5_recordProperty_92 : decode cX5_recordProperty 92 = .ok (.getfield 204, 3) := by decide +kernel
theorem dX5_recordProperty_95 : decode cX5_recordProperty 95 = .ok (.ireturn, 1) := by decide +kernel
theorem dX5_recordProperty_96 : decode cX5_recordProperty 96 = .ok (.aload 4, 2) := by decide +kernel
theorem dX5_recordProperty_98 : decode cX5_recordProperty 98 = .ok (.getfield 83, 3) := by decide +kernel
theorem dX5_recordProperty_101 : decode cX5_recordProperty 101 = .ok (.ireturn, 1) := by decide +kernel
theorem dX5_recordProperty_102 : decode cX5_recordProperty 102 = .ok (.aload 4, 2) := by decide +kernel
theorem dX5_recordProperty_104 : decode cX5_recordProperty 104 = .ok (.getfield 162, 3) := by decide +kernel
theorem dX5_recordProperty_107 : decode cX5_recordProperty 107 = .ok (.ireturn, 1) := by decide +kernel
theorem dX5_recordProperty_108 : decode cX5_recordProperty 108 = .ok (.aload 4, 2) := by decide +kernel
theorem dX5_recordProperty_110 : decode cX5_recordProperty 110 = .ok (.getfield 77, 3) := by decide +kernel
theorem dX5_recordProperty_113 : decode cX5_recordProperty 113 = .ok (.invokestatic 207, 3) := by decide +kernel
theorem dX5_recordProperty_116 : decode cX5_recordProperty 116 = .ok (.ireturn, 1) := by decide +kernel
theorem dX5_recordProperty_117 : decode cX5_recordProperty 117 = .ok (.aload_n 0, 1) := by decide +kernel
theorem dX5_recordProperty_118 : decode cX5_recordProperty 118 = .ok (.iload_n 1, 1) := by decide +kernel
theorem dX5_recordProperty_119 : decode cX5_recordProperty 119 = .ok (.aload 4, 2) := by decide +kernel
theorem dX5_recordProperty_121 : decode cX5_recordProperty 121 = .ok (.invokevirtual 211, 3) := by decide +kernel
theorem dX5_recordProperty_124 : decode cX5_recordProperty 124 = .ok (.invokestatic 207, 3) := by decide +kernel
theorem dX5_recordProperty_127 : decode cX5_recordProperty 127 = .ok (.ireturn, 1) := by decide +kernel
theorem dX5_recordProperty_128 : decode cX5_recordProperty 128 = .ok (.bipush (-2), 2) := by decide +kernel
theorem dX5_recordProperty_130 : decode cX5_recordProperty 130 = .ok (.ireturn, 1) := by decide +kernel
theorem dX5_hostProperty_0 : decode cX5_hostProperty 0 = .ok (.aload_n 0, 1) := by decide +kernel
theorem dX5_hostProperty_1 : decode cX5_hostProperty 1 = .ok (.iload_n 1, 1) := by decide +kernel
theorem dX5_hostProperty_2 : decode cX5_hostProperty 2 = .ok (.invokevirtual 55, 3) := by decide +kernel
theorem dX5_hostProperty_5 : decode cX5_hostProperty 5 = .ok (.ifCond .ne 6, 3) := by decide +kernel
theorem dX5_hostProperty_8 : decode cX5_hostProperty 8 = .ok (.bipush (-2), 2) := by decide +kernel
theorem dX5_hostProperty_10 : decode cX5_hostProperty 10 = .ok (.ireturn, 1) := by decide +kernel
theorem dX5_hostProperty_11 : decode cX5_hostProperty 11 = .ok (.aload_n 0, 1) := by decide +kernel
theorem dX5_hostProperty_12 : decode cX5_hostProperty 12 = .ok (.getfield 11, 3) := by decide +kernel
theorem dX5_hostProperty_15 : decode cX5_hostProperty 15 = .ok (.iload_n 1, 1) := by decide +kernel
theorem dX5_hostProperty_16 : decode cX5_hostProperty 16 = .ok (.aaload, 1) := by decide +kernel
theorem dX5_hostProperty_17 : decode cX5_hostProperty 17 = .ok (.astore_n 3, 1) := by decide +kernel
theorem dX5_hostProperty_18 : decode cX5_hostProperty 18 = .ok (.iload_n 2, 1) := by decide +kernel
theorem dX5_hostProperty_19 : decode cX5_hostProperty 19 = .ok (.tableswitch 74 0 5 #[37, 42, 50, 55, 63, 68], 37) := by decide +kernel
theorem dX5_hostProperty_56 : decode cX5_hostProperty 56 = .ok (.aload_n 3, 1) := by decide +kernel
theorem dX5_hostProperty_57 : decode cX5_hostProperty 57 = .ok (.getfield 59, 3) := by decide +kernel
theorem dX5_hostProperty_60 : decode cX5_hostProperty 60 = .ok (.ireturn, 1) := by decide +kernel
theorem dX5_hostProperty_61 : decode cX5_hostProperty 61 = .ok (.aload_n 3, 1) := by decide +kernel
theorem dX5_hostProperty_62 : decode cX5_hostProperty 62 = .ok (.getfield 94, 3) := by decide +kernel
theorem dX5_hostProperty_65 : decode cX5_hostProperty 65 = .ok (.invokestatic 207, 3) := by decide +kernel
theorem dX5_hostProperty_68 : decode cX5_hostProperty 68 = .ok (.ireturn, 1) := by decide +kernel
theorem dX5_hostProperty_69 : decode cX5_hostProperty 69 = .ok (.aload_n 3, 1) := by decide +kernel
theorem dX5_hostProperty_70 : decode cX5_hostProperty 70 = .ok (.getfield 136, 3) := by decide +kernel
theorem dX5_hostProperty_73 : decode cX5_hostProperty 73 = .ok (.ireturn, 1) := by decide +kernel
theorem dX5_hostProperty_74 : decode cX5_hostProperty 74 = .ok (.aload_n 3, 1) := by decide +kernel
theorem dX5_hostProperty_75 : decode cX5_hostProperty 75 = .ok (.getfield 111, 3) := by decide +kernel
theorem dX5_hostProperty_78 : decode cX5_hostProperty 78 = .ok (.getfield 214, 3) := by decide +kernel
theorem dX5_hostProperty_81 : decode cX5_hostProperty 81 = .ok (.ireturn, 1) := by decide +kernel
theorem dX5_hostProperty_82 : decode cX5_hostProperty 82 = .ok (.aload_n 3, 1) := by decide +kernel
theorem dX5_hostProperty_83 : decode cX5_hostProperty 83 = .ok (.invokevirtual 200, 3) := by decide +kernel
theorem dX5_hostProperty_86 : decode cX5_hostProperty 86 = .ok (.ireturn, 1) := by decide +kernel
theorem dX5_hostProperty_87 : decode cX5_hostProperty 87 = .ok (.aload_n 0, 1) := by decide +kernel
theorem dX5_hostProperty_88 : decode cX5_hostProperty 88 = .ok (.iload_n 1, 1) := by decide +kernel
theorem dX5_hostProperty_89 : decode cX5_hostProperty 89 = .ok (.invokevirtual 217, 3) := by decide +kernel
theorem dX5_hostProperty_92 : decode cX5_hostProperty 92 = .ok (.ireturn, 1) := by decide +kernel
theorem dX5_hostProperty_93 : decode cX5_hostProperty 93 = .ok (.bipush (-2), 2) := by decide +kernel
theorem dX5_hostProperty_95 : decode cX5_hostProperty 95 = .ok (.ireturn, 1) := by decide +kernel
theorem dX5_hostsWithProxy_0 : decode cX5_hostsWithProxy 0 = .ok (.iconst 0, 1) := by decide +kernel
theorem dX5_hostsWithProxy_1 : decode cX5_hostsWithProxy 1 = .ok (.istore_n 2, 1) := by decide +kernel
theorem dX5_hostsWithProxy_2 : decode cX5_hostsWithProxy 2 = .ok (.iconst 0, 1) := by decide +kernel
theorem dX5_hostsWithProxy_3 : decode cX5_hostsWithProxy 3 = .ok (.istore_n 3, 1) := by decide +kernel
theorem dX5_hostsWithProxy_4 : decode cX5_hostsWithProxy 4 = .ok (.iload_n 3, 1) := by decide +kernel
theorem dX5_hostsWithProxy_5 : decode cX5_hostsWithProxy 5 = .ok (.aload_n 0, 1) := by decide +kernel
theorem dX5_hostsWithProxy_6 : decode cX5_hostsWithProxy 6 = .ok (.getfield 25, 3) := by decide +kernel
theorem dX5_hostsWithProxy_9 : decode cX5_hostsWithProxy 9 = .ok (.if_icmp .ge 28, 3) := by decide +kernel
theorem dX5_hostsWithProxy_12 : decode cX5_hostsWithProxy 12 = .ok (.aload_n 0, 1) := by decide +kernel
theorem dX5_hostsWithProxy_13 : decode cX5_hostsWithProxy 13 = .ok (.getfield 11, 3) := by decide +kernel
theorem dX5_hostsWithProxy_16 : decode cX5_hostsWithProxy 16 = .ok (.iload_n 3, 1) := by decide +kernel
theorem dX5_hostsWithProxy_17 : decode cX5_hostsWithProxy 17 = .ok (.aaload, 1) := by decide +kernel
theorem dX5_hostsWithProxy_18 : decode cX5_hostsWithProxy 18 = .ok (.getfield 136, 3) := by decide +kernel
theorem dX5_hostsWithProxy_21 : decode cX5_hostsWithProxy 21 = .ok (.iload_n 1, 1) := by decide +kernel
theorem dX5_hostsWithProxy_22 : decode cX5_hostsWithProxy 22 = .ok (.if_icmp .ne 9, 3) := by decide +kernel
theorem dX5_hostsWithProxy_25 : decode cX5_hostsWithProxy 25 = .ok (.iload_n 2, 1) := by decide +kernel
theorem dX5_hostsWithProxy_26 : decode cX5_hostsWithProxy 26 = .ok (.iconst 1, 1) := by decide +kernel
theorem dX5_hostsWithProxy_27 : decode cX5_hostsWithProxy 27 = .ok (.iload_n 3, 1) := by decide +kernel
theorem dX5_hostsWithProxy_28 : decode cX5_hostsWithProxy 28 = .ok (.ishl, 1) := by decide +kernel
theorem dX5_hostsWithProxy_29 : decode cX5_hostsWithProxy 29 = .ok (.ior, 1) := by decide +kernel
theorem dX5_hostsWithProxy_30 : decode cX5_hostsWithProxy 30 = .ok (.istore_n 2, 1) := by decide +kernel
theorem dX5_hostsWithProxy_31 : decode cX5_hostsWithProxy 31 = .ok (.iinc 3 1, 3) := by decide +kernel
theorem dX5_hostsWithProxy_34 : decode cX5_hostsWithProxy 34 = .ok (.goto (-30), 3) := by decide +kernel
theorem dX5_hostsWithProxy_37 : decode cX5_hostsWithProxy 37 = .ok (.iload_n 2, 1) := by decide +kernel
theorem dX5_hostsWithProxy_38 : decode cX5_hostsWithProxy 38 = .ok (.ireturn, 1) := by decide +kernel
theorem dX5_entryProperty_0 : decode cX5_entryProperty 0 = .ok (.aload_n 0, 1) := by decide +kernel
theorem dX5_entryProperty_1 : decode cX5_entryProperty 1 = .ok (.iload_n 1, 1) := by decide +kernel
theorem dX5_entryProperty_2 : decode cX5_entryProperty 2 = .ok (.invokevirtual 55, 3) := by decide +kernel
theorem dX5_entryProperty_5 : decode cX5_entryProperty 5 = .ok (.ifCond .eq 16, 3) := by decide +kernel
theorem dX5_entryProperty_8 : decode cX5_entryProperty 8 = .ok (.iload_n 2, 1) := by decide +kernel
theorem dX5_entryProperty_9 : decode cX5_entryProperty 9 = .ok (.ifCond .lt 12, 3) := by decide +kernel
theorem dX5_entryProperty_12 : decode cX5_entryProperty 12 = .ok (.iload_n 3, 1) := by decide +kernel
theorem dX5_entryProperty_13 : decode cX5_entryProperty 13 = .ok (.iconst 0, 1) := by decide +kernel
theorem dX5_entryProperty_14 : decode cX5_entryProperty 14 = .ok (.iconst 4, 1) := by decide +kernel
theorem dX5_entryProperty_15 : decode cX5_entryProperty 15 = .ok (.invokestatic 62, 3) := by decide +kernel
theorem dX5_entryProperty_18 : decode cX5_entryProperty 18 = .ok (.ifCond .ne 6, 3) := by decide +kernel
theorem dX5_entryProperty_21 : decode cX5_entryProperty 21 = .ok (.bipush (-2), 2) := by decide +kernel
theorem dX5_entryProperty_23 : decode cX5_entryProperty 23 = .ok (.ireturn, 1) := by decide +kernel
theorem dX5_entryProperty_24 : decode cX5_entryProperty 24 = .ok (.aload_n 0, 1) := by decide +kernel
theorem dX5_entryProperty_25 : decode cX5_entryProperty 25 = .ok (.getfield 11, 3) := by decide +kernel
theorem dX5_entryProperty_28 : decode cX5_entryProperty 28 = .ok (.iload_n 1, 1) := by decide +kernel
theorem dX5_entryProperty_29 : decode cX5_entryProperty 29 = .ok (.aaload, 1) := by decide +kernel
theorem dX5_entryProperty_30 : decode cX5_entryProperty 30 = .ok (.getfield 111, 3) := by decide +kernel
theorem dX5_entryProperty_33 : decode cX5_entryProperty 33 = .ok (.astore 4, 2) := by decide +kernel
theorem dX5_entryProperty_35 : decode cX5_entryProperty 35 = .ok (.iload_n 2, 1) := by decide +kernel
theorem dX5_entryProperty_36 : decode cX5_entryProperty 36 = .ok (.aload 4, 2) := by decide +kernel
theorem dX5_entryProperty_38 : decode cX5_entryProperty 38 = .ok (.getfield 214, 3) := by decide +kernel
theorem dX5_entryProperty_41 : decode cX5_entryProperty 41 = .ok (.if_icmp .lt 5, 3) := by decide +kernel
theorem dX5_entryProperty_44 : decode cX5_entryProperty 44 = .ok (.iconst (-1), 1) := by decide +kernel
theorem dX5_entryProperty_45 : decode cX5_entryProperty 45 = .ok (.ireturn, 1) := by decide +kernel
theorem dX5_entryProperty_46 : decode cX5_entryProperty 46 = .ok (.aload 4, 2) := by decide +kernel
theorem dX5_entryProperty_48 : decode cX5_entryProperty 48 = .ok (.getfield 220, 3) := by decide +kernel
theorem dX5_entryProperty_51 : decode cX5_entryProperty 51 = .ok (.iload_n 2, 1) := by decide +kernel
theorem dX5_entryProperty_52 : decode cX5_entryProperty 52 = .ok (.aaload, 1) := by decide +kernel
theorem dX5_entryProperty_53 : decode cX5_entryProperty 53 = .ok (.astore 5, 2) := by decide +kernel
theorem dX5_entryProperty_55 : decode cX5_entryProperty 55 = .ok (.iload_n 3, 1) := by decide +kernel
theorem dX5_entryProperty_56 : decode cX5_entryProperty 56 = .ok (.tableswitch 56 0 3 #[32, 38, 44, 50], 32) := by decide +kernel
theorem dX5_entryProperty_88 : decode cX5_entryProperty 88 = .ok (.aload 5, 2) := by decide +kernel
theorem dX5_entryProperty_90 : decode cX5_entryProperty 90 = .ok (.getfield 224, 3) := by decide +kernel
theorem dX5_entryProperty_93 : decode cX5_entryProperty 93 = .ok (.ireturn, 1) := by decide +kernel
theorem dX5_entryProperty_94 : decode cX5_entryProperty 94 = .ok (.aload 5, 2) := by decide +kernel
theorem dX5_entryProperty_96 : decode cX5_entryProperty 96 = .ok (.getfield 227, 3) := by decide +kernel
theorem dX5_entryProperty_99 : decode cX5_entryProperty 99 = .ok (.ireturn, 1) := by decide +kernel
theorem dX5_entryProperty_100 : decode cX5_entryProperty 100 = .ok (.aload 5, 2) := by decide +kernel
theorem dX5_entryProperty_102 : decode cX5_entryProperty 102 = .ok (.getfield 228, 3) := by decide +kernel
theorem dX5_entryProperty_105 : decode cX5_entryProperty 105 = .ok (.ireturn, 1) := by decide +kernel
theorem dX5_entryProperty_106 : decode cX5_entryProperty 106 = .ok (.aload 5, 2) := by decide +kernel
theorem dX5_entryProperty_108 : decode cX5_entryProperty 108 = .ok (.getfield 229, 3) := by decide +kernel
theorem dX5_entryProperty_111 : decode cX5_entryProperty 111 = .ok (.ireturn, 1) := by decide +kernel
theorem dX5_entryProperty_112 : decode cX5_entryProperty 112 = .ok (.aload 5, 2) := by decide +kernel
theorem dX5_entryProperty_114 : decode cX5_entryProperty 114 = .ok (.getfield 230, 3) := by decide +kernel
theorem dX5_entryProperty_117 : decode cX5_entryProperty 117 = .ok (.aload_n 0, 1) := by decide +kernel
theorem dX5_entryProperty_118 : decode cX5_entryProperty 118 = .ok (.getfield 33, 3) := by decide +kernel
theorem dX5_entryProperty_121 : decode cX5_entryProperty 121 = .ok (.isub, 1) := by decide +kernel
theorem dX5_entryProperty_122 : decode cX5_entryProperty 122 = .ok (.ireturn, 1) := by decide +kernel
theorem dX5_lookUp_0 : decode cX5_lookUp 0 = .ok (.aload_n 0, 1) := by decide +kernel
theorem dX5_lookUp_1 : decode cX5_lookUp 1 = .ok (.iload_n 1, 1) := by decide +kernel
theorem dX5_lookUp_2 : decode cX5_lookUp 2 = .ok (.invokevirtual 55, 3) := by decide +kernel
theorem dX5_lookUp_5 : decode cX5_lookUp 5 = .ok (.ifCond .eq 11, 3) := by decide +kernel
theorem dX5_lookUp_8 : decode cX5_lookUp 8 = .ok (.iload_n 2, 1) := by decide +kernel
theorem dX5_lookUp_9 : decode cX5_lookUp 9 = .ok (.iload_n 3, 1) := by decide +kernel
theorem dX5_lookUp_10 : decode cX5_lookUp 10 = .ok (.invokestatic 90, 3) := by decide +kernel
theorem dX5_lookUp_13 : decode cX5_lookUp 13 = .ok (.ifCond .ne 6, 3) := by decide +kernel
theorem dX5_lookUp_16 : decode cX5_lookUp 16 = .ok (.bipush (-2), 2) := by decide +kernel
theorem dX5_lookUp_18 : decode cX5_lookUp 18 = .ok (.ireturn, 1) := by decide +kernel
theorem dX5_lookUp_19 : decode cX5_lookUp 19 = .ok (.aload_n 0, 1) := by decide +kernel
theorem dX5_lookUp_20 : decode cX5_lookUp 20 = .ok (.getfield 11, 3) := by decide +kernel
theorem dX5_lookUp_23 : decode cX5_lookUp 23 = .ok (.iload_n 1, 1) := by decide +kernel
theorem dX5_lookUp_24 : decode cX5_lookUp 24 = .ok (.aaload, 1) := by decide +kernel
theorem dX5_lookUp_25 : decode cX5_lookUp 25 = .ok (.getfield 111, 3) := by decide +kernel
theorem dX5_lookUp_28 : decode cX5_lookUp 28 = .ok (.astore 5, 2) := by decide +kernel
theorem dX5_lookUp_30 : decode cX5_lookUp 30 = .ok (.iload 4, 2) := by decide +kernel
theorem dX5_lookUp_32 : decode cX5_lookUp 32 = .ok (.tableswitch 56 0 2 #[28, 36, 44], 28) := by decide +kernel
theorem dX5_lookUp_60 : decode cX5_lookUp 60 = .ok (.aload 5, 2) := by decide +kernel
theorem dX5_lookUp_62 : decode cX5_lookUp 62 = .ok (.iload_n 2, 1) := by decide +kernel
theorem dX5_lookUp_63 : decode cX5_lookUp 63 = .ok (.iload_n 3, 1) := by decide +kernel
theorem dX5_lookUp_64 : decode cX5_lookUp 64 = .ok (.invokevirtual 233, 3) := by decide +kernel
theorem dX5_lookUp_67 : decode cX5_lookUp 67 = .ok (.ireturn, 1) := by decide +kernel
theorem dX5_lookUp_68 : decode cX5_lookUp 68 = .ok (.aload 5, 2) := by decide +kernel
theorem dX5_lookUp_70 : decode cX5_lookUp 70 = .ok (.iload_n 2, 1) := by decide +kernel
theorem dX5_lookUp_71 : decode cX5_lookUp 71 = .ok (.iload_n 3, 1) := by decide +kernel
theorem dX5_lookUp_72 : decode cX5_lookUp 72 = .ok (.invokevirtual 237, 3) := by decide +kernel
theorem dX5_lookUp_75 : decode cX5_lookUp 75 = .ok (.ireturn, 1) := by decide +kernel
theorem dX5_lookUp_76 : decode cX5_lookUp 76 = .ok (.aload 5, 2) := by decide +kernel
theorem dX5_lookUp_78 : decode cX5_lookUp 78 = .ok (.iload_n 2, 1) := by decide +kernel
theorem dX5_lookUp_79 : decode cX5_lookUp 79 = .ok (.iload_n 3, 1) := by decide +kernel
theorem dX5_lookUp_80 : decode cX5_lookUp 80 = .ok (.aload_n 0, 1) := by decide +kernel
theorem dX5_lookUp_81 : decode cX5_lookUp 81 = .ok (.getfield 33, 3) := by decide +kernel
theorem dX5_lookUp_84 : decode cX5_lookUp 84 = .ok (.invokevirtual 240, 3) := by decide +kernel
theorem dX5_lookUp_87 : decode cX5_lookUp 87 = .ok (.ireturn, 1) := by decide +kernel
theorem dX5_lookUp_88 : decode cX5_lookUp 88 = .ok (.bipush (-2), 2) := by decide +kernel
theorem dX5_lookUp_90 : decode cX5_lookUp 90 = .ok (.ireturn, 1) := by decide +kernel
theorem dX5_defender_0 : decode cX5_defender 0 = .ok (.iload_n 1, 1) := by decide +kernel
theorem dX5_defender_1 : decode cX5_defender 1 = .ok (.iload_n 2, 1) := by decide +kernel
theorem dX5_defender_2 : decode cX5_defender 2 = .ok (.invokestatic 90, 3) := by decide +kernel
theorem dX5_defender_5 : decode cX5_defender 5 = .ok (.ifCond .eq 12, 3) := by decide +kernel
theorem dX5_defender_8 : decode cX5_defender 8 = .ok (.iload_n 3, 1) := by decide +kernel
theorem dX5_defender_9 : decode cX5_defender 9 = .ok (.iconst 0, 1) := by decide +kernel
theorem dX5_defender_10 : decode cX5_defender 10 = .ok (.iconst 2, 1) := by decide +kernel
theorem dX5_defender_11 : decode cX5_defender 11 = .ok (.invokestatic 62, 3) := by decide +kernel
theorem dX5_defender_14 : decode cX5_defender 14 = .ok (.ifCond .ne 6, 3) := by decide +kernel
theorem dX5_defender_17 : decode cX5_defender 17 = .ok (.bipush (-2), 2) := by decide +kernel
theorem dX5_defender_19 : decode cX5_defender 19 = .ok (.ireturn, 1) := by decide +kernel
theorem dX5_defender_20 : decode cX5_defender 20 = .ok (.iconst (-1), 1) := by decide +kernel
theorem dX5_defender_21 : decode cX5_defender 21 = .ok (.istore 4, 2) := by decide +kernel
theorem dX5_defender_23 : decode cX5_defender 23 = .ok (.iconst 0, 1) := by decide +kernel
theorem dX5_defender_24 : decode cX5_defender 24 = .ok (.istore 5, 2) := by decide +kernel
theorem dX5_defender_26 : decode cX5_defender 26 = .ok (.iconst 0, 1) := by decide +kernel
theorem dX5_defender_27 : decode cX5_defender 27 = .ok (.istore 6, 2) := by decide +kernel
theorem dX5_defender_29 : decode cX5_defender 29 = .ok (.iload 6, 2) := by decide +kernel
theorem dX5_defender_31 : decode cX5_defender 31 = .ok (.aload_n 0, 1) := by decide +kernel
theorem dX5_defender_32 : decode cX5_defender 32 = .ok (.getfield 25, 3) := by decide +kernel
theorem dX5_defender_35 : decode cX5_defender 35 = .ok (.if_icmp .ge 53, 3) := by decide +kernel
theorem dX5_defender_38 : decode cX5_defender 38 = .ok (.aload_n 0, 1) := by decide +kernel
theorem dX5_defender_39 : decode cX5_defender 39 = .ok (.iload 6, 2) := by decide +kernel
theorem dX5_defender_41 : decode cX5_defender 41 = .ok (.invokevirtual 139, 3) := by decide +kernel
theorem dX5_defender_44 : decode cX5_defender 44 = .ok (.iconst (-1), 1) := by decide +kernel
theorem dX5_defender_45 : decode cX5_defender 45 = .ok (.if_icmp .eq 37, 3) := by decide +kernel
theorem dX5_defender_48 : decode cX5_defender 48 = .ok (.aload_n 0, 1) := by decide +kernel
theorem dX5_defender_49 : decode cX5_defender 49 = .ok (.getfield 11, 3) := by decide +kernel
theorem dX5_defender_52 : decode cX5_defender 52 = .ok (.iload 6, 2) := by decide +kernel
theorem dX5_defender_54 : decode cX5_defender 54 = .ok (.aaload, 1) := by decide +kernel
theorem dX5_defender_55 : decode cX5_defender 55 = .ok (.iload_n 1, 1) := by decide +kernel
theorem dX5_defender_56 : decode cX5_defender 56 = .ok (.iload_n 2, 1) := by decide +kernel
theorem dX5_defender_57 : decode cX5_defender 57 = .ok (.invokevirtual 243, 3) := by decide +kernel
theorem dX5_defender_60 : decode cX5_defender 60 = .ok (.iconst (-1), 1) := by decide +kernel
theorem dX5_defender_61 : decode cX5_defender 61 = .ok (.if_icmp .eq 21, 3) := by decide +kernel
theorem dX5_defender_64 : decode cX5_defender 64 = .ok (.iload 4, 2) := by decide +kernel
theorem dX5_defender_66 : decode cX5_defender 66 = .ok (.iconst (-1), 1) := by decide +kernel
theorem dX5_defender_67 : decode cX5_defender 67 = .ok (.if_icmp .ne 8, 3) := by decide +kernel
theorem dX5_defender_70 : decode cX5_defender 70 = .ok (.iload 6, 2) := by decide +kernel
theorem dX5_defender_72 : decode cX5_defender 72 = .ok (.goto 5, 3) := by decide +kernel
theorem dX5_defender_75 : decode cX5_defender 75 = .ok (.iload 4, 2) := by decide +kernel
theorem dX5_defender_77 : decode cX5_defender 77 = .ok (.istore 4, 2) := by decide +kernel
theorem dX5_defender_79 : decode cX5_defender 79 = .ok (.iinc 5 1, 3) := by decide +kernel
theorem dX5_defender_82 : decode cX5_defender 82 = .ok (.iinc 6 1, 3) := by decide +kernel
theorem dX5_defender_85 : decode cX5_defender 85 = .ok (.goto (-56), 3) := by decide +kernel
theorem dX5_defender_88 : decode cX5_defender 88 = .ok (.iload_n 3, 1) := by decide +kernel
theorem dX5_defender_89 : decode cX5_defender 89 = .ok (.iconst 2, 1) := by decide +kernel
theorem dX5_defender_90 : decode cX5_defender 90 = .ok (.if_icmp .ne 6, 3) := by decide +kernel
theorem dX5_defender_93 : decode cX5_defender 93 = .ok (.iload 5, 2) := by decide +kernel
theorem dX5_defender_95 : decode cX5_defender 95 = .ok (.ireturn, 1) := by decide +kernel
theorem dX5_defender_96 : decode cX5_defender 96 = .ok (.aload_n 0, 1) := by decide +kernel
theorem dX5_defender_97 : decode cX5_defender 97 = .ok (.iload 4, 2) := by decide +kernel
theorem dX5_defender_99 : decode cX5_defender 99 = .ok (.invokevirtual 55, 3) := by decide +kernel
theorem dX5_defender_102 : decode cX5_defender 102 = .ok (.ifCond .eq 7, 3) := by decide +kernel
theorem dX5_defender_105 : decode cX5_defender 105 = .ok (.iload_n 3, 1) := by decide +kernel
theorem dX5_defender_106 : decode cX5_defender 106 = .ok (.ifCond .ne 6, 3) := by decide +kernel
theorem dX5_defender_109 : decode cX5_defender 109 = .ok (.iload 4, 2) := by decide +kernel
theorem dX5_defender_111 : decode cX5_defender 111 = .ok (.ireturn, 1) := by decide +kernel
theorem dX5_defender_112 : decode cX5_defender 112 = .ok (.aload_n 0, 1) := by decide +kernel
theorem dX5_defender_113 : decode cX5_defender 113 = .ok (.iload 4, 2) := by decide +kernel
theorem dX5_defender_115 : decode cX5_defender 115 = .ok (.aload_n 0, 1) := by decide +kernel
theorem dX5_defender_116 : decode cX5_defender 116 = .ok (.getfield 11, 3) := by decide +kernel
theorem dX5_defender_119 : decode cX5_defender 119 = .ok (.iload 4, 2) := by decide +kernel
theorem dX5_defender_121 : decode cX5_defender 121 = .ok (.aaload, 1) := by decide +kernel
theorem dX5_defender_122 : decode cX5_defender 122 = .ok (.iload_n 1, 1) := by decide +kernel
theorem dX5_defender_123 : decode cX5_defender 123 = .ok (.iload_n 2, 1) := by decide +kernel
theorem dX5_defender_124 : decode cX5_defender 124 = .ok (.invokevirtual 243, 3) := by decide +kernel
theorem dX5_defender_127 : decode cX5_defender 127 = .ok (.iconst 2, 1) := by decide +kernel
theorem dX5_defender_128 : decode cX5_defender 128 = .ok (.invokevirtual 246, 3) := by decide +kernel
theorem dX5_defender_131 : decode cX5_defender 131 = .ok (.ireturn, 1) := by decide +kernel
theorem dX5_total_0 : decode cX5_total 0 = .ok (.iload_n 1, 1) := by decide +kernel
theorem dX5_total_1 : decode cX5_total 1 = .ok (.iconst 0, 1) := by decide +kernel
theorem dX5_total_2 : decode cX5_total 2 = .ok (.iconst 3, 1) := by decide +kernel
theorem dX5_total_3 : decode cX5_total 3 = .ok (.invokestatic 62, 3) := by decide +kernel
theorem dX5_total_6 : decode cX5_total 6 = .ok (.ifCond .ne 6, 3) := by decide +kernel
theorem dX5_total_9 : decode cX5_total 9 = .ok (.bipush (-2), 2) := by decide +kernel
theorem dX5_total_11 : decode cX5_total 11 = .ok (.ireturn, 1) := by decide +kernel
theorem dX5_total_12 : decode cX5_total 12 = .ok (.iconst 0, 1) := by decide +kernel
theorem dX5_total_13 : decode cX5_total 13 = .ok (.istore_n 2, 1) := by decide +kernel
theorem dX5_total_14 : decode cX5_total 14 = .ok (.iconst 0, 1) := by decide +kernel
theorem dX5_total_15 : decode cX5_total 15 = .ok (.istore_n 3, 1) := by decide +kernel
theorem dX5_total_16 : decode cX5_total 16 = .ok (.iload_n 3, 1) := by decide +kernel
theorem dX5_total_17 : decode cX5_total 17 = .ok (.aload_n 0, 1) := by decide +kernel
theorem dX5_total_18 : decode cX5_total 18 = .ok (.getfield 25, 3) := by decide +kernel
theorem dX5_total_21 : decode cX5_total 21 = .ok (.if_icmp .ge 102, 3) := by decide +kernel
theorem dX5_total_24 : decode cX5_total 24 = .ok (.aload_n 0, 1) := by decide +kernel
theorem dX5_total_25 : decode cX5_total 25 = .ok (.getfield 11, 3) := by decide +kernel
theorem dX5_total_28 : decode cX5_total 28 = .ok (.iload_n 3, 1) := by decide +kernel
theorem dX5_total_29 : decode cX5_total 29 = .ok (.aaload, 1) := by decide +kernel
theorem dX5_total_30 : decode cX5_total 30 = .ok (.astore 4, 2) := by decide +kernel
theorem dX5_total_32 : decode cX5_total 32 = .ok (.iload_n 1, 1) := by decide +kernel
theorem dX5_total_33 : decode cX5_total 33 = .ok (.tableswitch 73 0 2 #[27, 41, 56], 27) := by decide +kernel
theorem dX5_total_60 : decode cX5_total 60 = .ok (.iload_n 2, 1) := by decide +kernel
theorem dX5_total_61 : decode cX5_total 61 = .ok (.aload 4, 2) := by decide +kernel
theorem dX5_total_63 : decode cX5_total 63 = .ok (.getfield 111, 3) := by decide +kernel
theorem dX5_total_66 : decode cX5_total 66 = .ok (.getfield 214, 3) := by decide +kernel
theorem dX5_total_69 : decode cX5_total 69 = .ok (.iadd, 1) := by decide +kernel
theorem dX5_total_70 : decode cX5_total 70 = .ok (.istore_n 2, 1) := by decide +kernel
theorem dX5_total_71 : decode cX5_total 71 = .ok (.goto 46, 3) := by decide +kernel
theorem dX5_total_74 : decode cX5_total 74 = .ok (.iload_n 2, 1) := by decide +kernel
theorem dX5_total_75 : decode cX5_total 75 = .ok (.aload_n 0, 1) := by decide +kernel
theorem dX5_total_76 : decode cX5_total 76 = .ok (.aload 4, 2) := by decide +kernel
theorem dX5_total_78 : decode cX5_total 78 = .ok (.getfield 111, 3) := by decide +kernel
theorem dX5_total_81 : decode cX5_total 81 = .ok (.invokevirtual 249, 3) := by decide +kernel
theorem dX5_total_84 : decode cX5_total 84 = .ok (.iadd, 1) := by decide +kernel
theorem dX5_total_85 : decode cX5_total 85 = .ok (.istore_n 2, 1) := by decide +kernel
theorem dX5_total_86 : decode cX5_total 86 = .ok (.goto 31, 3) := by decide +kernel
theorem dX5_total_89 : decode cX5_total 89 = .ok (.iload_n 2, 1) := by decide +kernel
theorem dX5_total_90 : decode cX5_total 90 = .ok (.aload 4, 2) := by decide +kernel
theorem dX5_total_92 : decode cX5_total 92 = .ok (.getfield 59, 3) := by decide +kernel
theorem dX5_total_95 : decode cX5_total 95 = .ok (.aload 4, 2) := by decide +kernel
theorem dX5_total_97 : decode cX5_total 97 = .ok (.invokevirtual 200, 3) := by decide +kernel
theorem dX5_total_100 : decode cX5_total 100 = .ok (.isub, 1) := by decide +kernel
theorem dX5_total_101 : decode cX5_total 101 = .ok (.iadd, 1) := by decide +kernel
theorem dX5_total_102 : decode cX5_total 102 = .ok (.istore_n 2, 1) := by decide +kernel
theorem dX5_total_103 : decode cX5_total 103 = .ok (.goto 14, 3) := by decide +kernel
theorem dX5_total_106 : decode cX5_total 106 = .ok (.iload_n 2, 1) := by decide +kernel
theorem dX5_total_107 : decode cX5_total 107 = .ok (.aload 4, 2) := by decide +kernel
theorem dX5_total_109 : decode cX5_total 109 = .ok (.getfield 94, 3) := by decide +kernel
theorem dX5_total_112 : decode cX5_total 112 = .ok (.invokestatic 207, 3) := by decide +kernel
theorem dX5_total_115 : decode cX5_total 115 = .ok (.iadd, 1) := by decide +kernel
theorem dX5_total_116 : decode cX5_total 116 = .ok (.istore_n 2, 1) := by decide +kernel
theorem dX5_total_117 : decode cX5_total 117 = .ok (.iinc 3 1, 3) := by decide +kernel
theorem dX5_total_120 : decode cX5_total 120 = .ok (.goto (-104), 3) := by decide +kernel
theorem dX5_total_123 : decode cX5_total 123 = .ok (.iload_n 2, 1) := by decide +kernel
theorem dX5_total_124 : decode cX5_total 124 = .ok (.ireturn, 1) := by decide +kernel
theorem dX5_staleEntries_0 : decode cX5_staleEntries 0 = .ok (.iconst 0, 1) := by decide +kernel
theorem dX5_staleEntries_1 : decode cX5_staleEntries 1 = .ok (.istore_n 2, 1) := by decide +kernel
theorem dX5_staleEntries_2 : decode cX5_staleEntries 2 = .ok (.iconst 0, 1) := by decide +kernel
theorem dX5_staleEntries_3 : decode cX5_staleEntries 3 = .ok (.istore_n 3, 1) := by decide +kernel
theorem dX5_staleEntries_4 : decode cX5_staleEntries 4 = .ok (.iload_n 3, 1) := by decide +kernel
theorem dX5_staleEntries_5 : decode cX5_staleEntries 5 = .ok (.aload_n 1, 1) := by decide +kernel
theorem dX5_staleEntries_6 : decode cX5_staleEntries 6 = .ok (.getfield 214, 3) := by decide +kernel
theorem dX5_staleEntries_9 : decode cX5_staleEntries 9 = .ok (.if_icmp .ge 33, 3) := by decide +kernel
theorem dX5_staleEntries_12 : decode cX5_staleEntries 12 = .ok (.iload_n 2, 1) := by decide +kernel
theorem dX5_staleEntries_13 : decode cX5_staleEntries 13 = .ok (.aload_n 0, 1) := by decide +kernel
theorem dX5_staleEntries_14 : decode cX5_staleEntries 14 = .ok (.aload_n 1, 1) := by decide +kernel
theorem dX5_staleEntries_15 : decode cX5_staleEntries 15 = .ok (.getfield 220, 3) := by decide +kernel
theorem dX5_staleEntries_18 : decode cX5_staleEntries 18 = .ok (.iload_n 3, 1) := by decide +kernel
theorem dX5_staleEntries_19 : decode cX5_staleEntries 19 = .ok (.aaload, 1) := by decide +kernel
theorem dX5_staleEntries_20 : decode cX5_staleEntries 20 = .ok (.invokevirtual 253, 3) := by decide +kernel
theorem dX5_staleEntries_23 : decode cX5_staleEntries 23 = .ok (.ifCond .ne 7, 3) := by decide +kernel
theorem dX5_staleEntries_26 : decode cX5_staleEntries 26 = .ok (.iconst 1, 1) := by decide +kernel
theorem dX5_staleEntries_27 : decode cX5_staleEntries 27 = .ok (.goto 4, 3) := by decide +kernel
theorem dX5_staleEntries_30 : decode cX5_staleEntries 30 = .ok (.iconst 0, 1) := by decide +kernel
theorem dX5_staleEntries_31 : decode cX5_staleEntries 31 = .ok (.invokestatic 207, 3) := by decide +kernel
theorem dX5_staleEntries_34 : decode cX5_staleEntries 34 = .ok (.iadd, 1) := by decide +kernel
theorem dX5_staleEntries_35 : decode cX5_staleEntries 35 = .ok (.istore_n 2, 1) := by decide +kernel
theorem dX5_staleEntries_36 : decode cX5_staleEntries 36 = .ok (.iinc 3 1, 3) := by decide +kernel
theorem dX5_staleEntries_39 : decode cX5_staleEntries 39 = .ok (.goto (-35), 3) := by decide +kernel
theorem dX5_staleEntries_42 : decode cX5_staleEntries 42 = .ok (.iload_n 2, 1) := by decide +kernel
theorem dX5_staleEntries_43 : decode cX5_staleEntries 43 = .ok (.ireturn, 1) := by decide +kernel
theorem dX5_isOwnedByAny_0 : decode cX5_isOwnedByAny 0 = .ok (.iconst 0, 1) := by decide +kernel
theorem dX5_isOwnedByAny_1 : decode cX5_isOwnedByAny 1 = .ok (.istore_n 2, 1) := by decide +kernel
theorem dX5_isOwnedByAny_2 : decode cX5_isOwnedByAny 2 = .ok (.iload_n 2, 1) := by decide +kernel
theorem dX5_isOwnedByAny_3 : decode cX5_isOwnedByAny 3 = .ok (.aload_n 0, 1) := by decide +kernel
theorem dX5_isOwnedByAny_4 : decode cX5_isOwnedByAny 4 = .ok (.getfield 25, 3) := by decide +kernel
theorem dX5_isOwnedByAny_7 : decode cX5_isOwnedByAny 7 = .ok (.if_icmp .ge 35, 3) := by decide +kernel
theorem dX5_isOwnedByAny_10 : decode cX5_isOwnedByAny 10 = .ok (.aload_n 0, 1) := by decide +kernel
theorem dX5_isOwnedByAny_11 : decode cX5_isOwnedByAny 11 = .ok (.getfield 11, 3) := by decide +kernel
theorem dX5_isOwnedByAny_14 : decode cX5_isOwnedByAny 14 = .ok (.iload_n 2, 1) := by decide +kernel
theorem dX5_isOwnedByAny_15 : decode cX5_isOwnedByAny 15 = .ok (.aaload, 1) := by decide +kernel
theorem dX5_isOwnedByAny_16 : decode cX5_isOwnedByAny 16 = .ok (.aload_n 1, 1) := by decide +kernel
theorem dX5_isOwnedByAny_17 : decode cX5_isOwnedByAny 17 = .ok (.getfield 224, 3) := by decide +kernel
theorem dX5_isOwnedByAny_20 : decode cX5_isOwnedByAny 20 = .ok (.aload_n 1, 1) := by decide +kernel
theorem dX5_isOwnedByAny_21 : decode cX5_isOwnedByAny 21 = .ok (.getfield 227, 3) := by decide +kernel
theorem dX5_isOwnedByAny_24 : decode cX5_isOwnedByAny 24 = .ok (.aload_n 1, 1) := by decide +kernel
theorem dX5_isOwnedByAny_25 : decode cX5_isOwnedByAny 25 = .ok (.getfield 228, 3) := by decide +kernel
theorem dX5_isOwnedByAny_28 : decode cX5_isOwnedByAny 28 = .ok (.invokevirtual 257, 3) := by decide +kernel
theorem dX5_isOwnedByAny_31 : decode cX5_isOwnedByAny 31 = .ok (.ifCond .eq 5, 3) := by decide +kernel
theorem dX5_isOwnedByAny_34 : decode cX5_isOwnedByAny 34 = .ok (.iconst 1, 1) := by decide +kernel
theorem dX5_isOwnedByAny_35 : decode cX5_isOwnedByAny 35 = .ok (.ireturn, 1) := by decide +kernel
theorem dX5_isOwnedByAny_36 : decode cX5_isOwnedByAny 36 = .ok (.iinc 2 1, 3) := by decide +kernel
theorem dX5_isOwnedByAny_39 : decode cX5_isOwnedByAny 39 = .ok (.goto (-37), 3) := by decide +kernel
theorem dX5_isOwnedByAny_42 : decode cX5_isOwnedByAny 42 = .ok (.iconst 0, 1) := by decide +kernel
theorem dX5_isOwnedByAny_43 : decode cX5_isOwnedByAny 43 = .ok (.ireturn, 1) := by decide +kernel
theorem dX6_init_0 : decode cX6_init 0 = .ok (.aload_n 0, 1) := by decide +kernel
theorem dX6_init_1 : decode cX6_init 1 = .ok (.invokespecial 3, 3) := by decide +kernel
theorem dX6_init_4 : decode cX6_init 4 = .ok (.return_, 1) := by decide +kernel
theorem dX6_become_0 : decode cX6_become 0 = .ok (.aload_n 0, 1) := by decide +kernel
theorem dX6_become_1 : decode cX6_become 1 = .ok (.aload_n 1, 1) := by decide +kernel
theorem dX6_become_2 : decode cX6_become 2 = .ok (.getfield 9, 3) := by decide +kernel
theorem dX6_become_5 : decode cX6_become 5 = .ok (.putfield 9, 3) := by decide +kernel
theorem dX6_become_8 : decode cX6_become 8 = .ok (.aload_n 0, 1) := by decide +kernel
theorem dX6_become_9 : decode cX6_become 9 = .ok (.aload_n 1, 1) := by decide +kernel
theorem dX6_become_10 : decode cX6_become 10 = .ok (.getfield 15, 3) := by decide +kernel
theorem dX6_become_13 : decode cX6_become 13 = .ok (.putfield 15, 3) := by decide +kernel
theorem dX6_become_16 : decode cX6_become 16 = .ok (.aload_n 0, 1) := by decide +kernel
theorem dX6_become_17 : decode cX6_become 17 = .ok (.aload_n 1, 1) := by decide +kernel
theorem dX6_become_18 : decode cX6_become 18 = .ok (.getfield 18, 3) := by decide +kernel
theorem dX6_become_21 : decode cX6_become 21 = .ok (.putfield 18, 3) := by decide +kernel
theorem dX6_become_24 : decode cX6_become 24 = .ok (.aload_n 0, 1) := by decide +kernel
theorem dX6_become_25 : decode cX6_become 25 = .ok (.aload_n 1, 1) := by decide +kernel
theorem dX6_become_26 : decode cX6_become 26 = .ok (.getfield 21, 3) := by decide +kernel
theorem dX6_become_29 : decode cX6_become 29 = .ok (.putfield 21, 3) := by decide +kernel
theorem dX6_become_32 : decode cX6_become 32 = .ok (.aload_n 0, 1) := by decide +kernel
theorem dX6_become_33 : decode cX6_become 33 = .ok (.aload_n 1, 1) := by decide +kernel
theorem dX6_become_34 : decode cX6_become 34 = .ok (.getfield 24, 3) := by decide +kernel
theorem dX6_become_37 : decode cX6_become 37 = .ok (.putfield 24, 3) := by decide +kernel
theorem dX6_become_40 : decode cX6_become 40 = .ok (.aload_n 0, 1) := by decide +kernel
theorem dX6_become_41 : decode cX6_become 41 = .ok (.aload_n 1, 1) := by decide +kernel
theorem dX6_become_42 : decode cX6_become 42 = .ok (.getfield 27, 3) := by decide +kernel
theorem dX6_become_45 : decode cX6_become 45 = .ok (.putfield 27, 3) := by decide +kernel
theorem dX6_become_48 : decode cX6_become 48 = .ok (.aload_n 0, 1) := by decide +kernel
theorem dX6_become_49 : decode cX6_become 49 = .ok (.aload_n 1, 1) := by decide +kernel
theorem dX6_become_50 : decode cX6_become 50 = .ok (.getfield 30, 3) := by decide +kernel
theorem dX6_become_53 : decode cX6_become 53 = .ok (.putfield 30, 3) := by decide +kernel
theorem dX6_become_56 : decode cX6_become 56 = .ok (.return_, 1) := by decide +kernel
theorem dX6_isNamed_0 : decode cX6_isNamed 0 = .ok (.aload_n 0, 1) := by decide +kernel
theorem dX6_isNamed_1 : decode cX6_isNamed 1 = .ok (.getfield 9, 3) := by decide +kernel
theorem dX6_isNamed_4 : decode cX6_isNamed 4 = .ok (.iload_n 1, 1) := by decide +kernel
theorem dX6_isNamed_5 : decode cX6_isNamed 5 = .ok (.if_icmp .ne 15, 3) := by decide +kernel
theorem dX6_isNamed_8 : decode cX6_isNamed 8 = .ok (.aload_n 0, 1) := by decide +kernel
theorem dX6_isNamed_9 : decode cX6_isNamed 9 = .ok (.getfield 15, 3) := by decide +kernel
theorem dX6_isNamed_12 : decode cX6_isNamed 12 = .ok (.iload_n 2, 1) := by decide +kernel
theorem dX6_isNamed_13 : decode cX6_isNamed 13 = .ok (.if_icmp .ne 7, 3) := by decide +kernel
theorem dX6_isNamed_16 : decode cX6_isNamed 16 = .ok (.iconst 1, 1) := by decide +kernel
theorem dX6_isNamed_17 : decode cX6_isNamed 17 = .ok (.goto 4, 3) := by decide +kernel
theorem dX6_isNamed_20 : decode cX6_isNamed 20 = .ok (.iconst 0, 1) := by decide +kernel
theorem dX6_isNamed_21 : decode cX6_isNamed 21 = .ok (.ireturn, 1) := by decide +kernel
theorem dX6_isOwned_0 : decode cX6_isOwned 0 = .ok (.aload_n 0, 1) := by decide +kernel
theorem dX6_isOwned_1 : decode cX6_isOwned 1 = .ok (.getfield 24, 3) := by decide +kernel
theorem dX6_isOwned_4 : decode cX6_isOwned 4 = .ok (.iconst 3, 1) := by decide +kernel
theorem dX6_isOwned_5 : decode cX6_isOwned 5 = .ok (.if_icmp .ne 7, 3) := by decide +kernel
theorem dX6_isOwned_8 : decode cX6_isOwned 8 = .ok (.iconst 1, 1) := by decide +kernel
theorem dX6_isOwned_9 : decode cX6_isOwned 9 = .ok (.goto 4, 3) := by decide +kernel
theorem dX6_isOwned_12 : decode cX6_isOwned 12 = .ok (.iconst 0, 1) := by decide +kernel
theorem dX6_isOwned_13 : decode cX6_isOwned 13 = .ok (.ireturn, 1) := by decide +kernel
theorem dX6_restart_0 : decode cX6_restart 0 = .ok (.aload_n 0, 1) := by decide +kernel
theorem dX6_restart_1 : decode cX6_restart 1 = .ok (.iconst 0, 1) := by decide +kernel
theorem dX6_restart_2 : decode cX6_restart 2 = .ok (.putfield 24, 3) := by decide +kernel
theorem dX6_restart_5 : decode cX6_restart 5 = .ok (.aload_n 0, 1) := by decide +kernel
theorem dX6_restart_6 : decode cX6_restart 6 = .ok (.iload_n 1, 1) := by decide +kernel
theorem dX6_restart_7 : decode cX6_restart 7 = .ok (.putfield 27, 3) := by decide +kernel
theorem dX6_restart_10 : decode cX6_restart 10 = .ok (.return_, 1) := by decide +kernel
theorem dX7_init_0 : decode cX7_init 0 = .ok (.aload_n 0, 1) := by decide +kernel
theorem dX7_init_1 : decode cX7_init 1 = .ok (.invokespecial 3, 3) := by decide +kernel
theorem dX7_init_4 : decode cX7_init 4 = .ok (.aload_n 0, 1) := by decide +kernel
theorem dX7_init_5 : decode cX7_init 5 = .ok (.bipush 120, 2) := by decide +kernel
theorem dX7_init_7 : decode cX7_init 7 = .ok (.newarray .byte, 2) := by decide +kernel
theorem dX7_init_9 : decode cX7_init 9 = .ok (.putfield 9, 3) := by decide +kernel
theorem dX7_init_12 : decode cX7_init 12 = .ok (.aload_n 0, 1) := by decide +kernel
theorem dX7_init_13 : decode cX7_init 13 = .ok (.bipush 60, 2) := by decide +kernel
theorem dX7_init_15 : decode cX7_init 15 = .ok (.newarray .int, 2) := by decide +kernel
theorem dX7_init_17 : decode cX7_init 17 = .ok (.putfield 15, 3) := by decide +kernel
theorem dX7_init_20 : decode cX7_init 20 = .ok (.aload_n 0, 1) := by decide +kernel
theorem dX7_init_21 : decode cX7_init 21 = .ok (.sipush 300, 3) := by decide +kernel
theorem dX7_init_24 : decode cX7_init 24 = .ok (.newarray .int, 2) := by decide +kernel
theorem dX7_init_26 : decode cX7_init 26 = .ok (.putfield 19, 3) := by decide +kernel
theorem dX7_init_29 : decode cX7_init 29 = .ok (.return_, 1) := by decide +kernel
theorem dX7_append_0 : decode cX7_append 0 = .ok (.iload_n 1, 1) := by decide +kernel
theorem dX7_append_1 : decode cX7_append 1 = .ok (.iconst 0, 1) := by decide +kernel
theorem dX7_append_2 : decode cX7_append 2 = .ok (.bipush 127, 2) := by decide +kernel
theorem dX7_append_4 : decode cX7_append 4 = .ok (.invokestatic 22, 3) := by decide +kernel
theorem dX7_append_7 : decode cX7_append 7 = .ok (.ifCond .ne 6, 3) := by decide +kernel
theorem dX7_append_10 : decode cX7_append 10 = .ok (.bipush (-2), 2) := by decide +kernel
theorem dX7_append_12 : decode cX7_append 12 = .ok (.ireturn, 1) := by decide +kernel
theorem dX7_append_13 : decode cX7_append 13 = .ok (.aload_n 0, 1) := by decide +kernel
theorem dX7_append_14 : decode cX7_append 14 = .ok (.getfield 26, 3) := by decide +kernel
theorem dX7_append_17 : decode cX7_append 17 = .ok (.bipush 120, 2) := by decide +kernel
theorem dX7_append_19 : decode cX7_append 19 = .ok (.if_icmp .lt 6, 3) := by decide +kernel
theorem dX7_append_22 : decode cX7_append 22 = .ok (.bipush (-4), 2) := by decide +kernel
theorem dX7_append_24 : decode cX7_append 24 = .ok (.ireturn, 1) := by decide +kernel
theorem dX7_append_25 : decode cX7_append 25 = .ok (.aload_n 0, 1) := by decide +kernel
theorem dX7_append_26 : decode cX7_append 26 = .ok (.getfield 9, 3) := by decide +kernel
theorem dX7_append_29 : decode cX7_append 29 = .ok (.aload_n 0, 1) := by decide +kernel
theorem dX7_append_30 : decode cX7_append 30 = .ok (.getfield 26, 3) := by decide +kernel
theorem dX7_append_33 : decode cX7_append 33 = .ok (.iload_n 1, 1) := by decide +kernel
theorem dX7_append_34 : decode cX7_append 34 = .ok (.i2b, 1) := by decide +kernel
theorem dX7_append_35 : decode cX7_append 35 = .ok (.bastore, 1) := by decide +kernel
theorem dX7_append_36 : decode cX7_append 36 = .ok (.aload_n 0, 1) := by decide +kernel
theorem dX7_append_37 : decode cX7_append 37 = .ok (.dup, 1) := by decide +kernel
theorem dX7_append_38 : decode cX7_append 38 = .ok (.getfield 26, 3) := by decide +kernel
theorem dX7_append_41 : decode cX7_append 41 = .ok (.iconst 1, 1) := by decide +kernel
theorem dX7_append_42 : decode cX7_append 42 = .ok (.iadd, 1) := by decide +kernel
theorem dX7_append_43 : decode cX7_append 43 = .ok (.putfield 26, 3) := by decide +kernel
theorem dX7_append_46 : decode cX7_append 46 = .ok (.aload_n 0, 1) := by decide +kernel
theorem dX7_append_47 : decode cX7_append 47 = .ok (.getfield 26, 3) := by decide +kernel
theorem dX7_append_50 : decode cX7_append 50 = .ok (.ireturn, 1) := by decide +kernel
theorem dX7_letter_0 : decode cX7_letter 0 = .ok (.iload_n 1, 1) := by decide +kernel
theorem dX7_letter_1 : decode cX7_letter 1 = .ok (.iconst 0, 1) := by decide +kernel
theorem dX7_letter_2 : decode cX7_letter 2 = .ok (.bipush 59, 2) := by decide +kernel
theorem dX7_letter_4 : decode cX7_letter 4 = .ok (.invokestatic 22, 3) := by decide +kernel
theorem dX7_letter_7 : decode cX7_letter 7 = .ok (.ifCond .eq 12, 3) := by decide +kernel
theorem dX7_letter_10 : decode cX7_letter 10 = .ok (.aload_n 0, 1) := by decide +kernel
theorem dX7_letter_11 : decode cX7_letter 11 = .ok (.getfield 15, 3) := by decide +kernel
theorem dX7_letter_14 : decode cX7_letter 14 = .ok (.iload_n 1, 1) := by decide +kernel
theorem dX7_letter_15 : decode cX7_letter 15 = .ok (.iaload, 1) := by decide +kernel
theorem dX7_letter_16 : decode cX7_letter 16 = .ok (.goto 4, 3) := by decide +kernel
theorem dX7_letter_19 : decode cX7_letter 19 = .ok (.iconst (-1), 1) := by decide +kernel
theorem dX7_letter_20 : decode cX7_letter 20 = .ok (.ireturn, 1) := by decide +kernel
theorem dX7_number_0 : decode cX7_number 0 = .ok (.iload_n 1, 1) := by decide +kernel
theorem dX7_number_1 : decode cX7_number 1 = .ok (.iconst 0, 1) := by decide +kernel
theorem dX7_number_2 : decode cX7_number 2 = .ok (.bipush 59, 2) := by decide +kernel
theorem dX7_number_4 : decode cX7_number 4 = .ok (.invokestatic 22, 3) := by decide +kernel
theorem dX7_number_7 : decode cX7_number 7 = .ok (.ifCond .eq 25, 3) := by decide +kernel
theorem dX7_number_10 : decode cX7_number 10 = .ok (.iload_n 2, 1) := by decide +kernel
theorem dX7_number_11 : decode cX7_number 11 = .ok (.iconst 0, 1) := by decide +kernel
theorem dX7_number_12 : decode cX7_number 12 = .ok (.iconst 4, 1) := by decide +kernel
theorem dX7_number_13 : decode cX7_number 13 = .ok (.invokestatic 22, 3) := by decide +kernel
theorem dX7_number_16 : decode cX7_number 16 = .ok (.ifCond .eq 16, 3) := by decide +kernel
theorem dX7_number_19 : decode cX7_number 19 = .ok (.aload_n 0, 1) := by decide +kernel
theorem dX7_number_20 : decode cX7_number 20 = .ok (.getfield 19, 3) := by decide +kernel
theorem dX7_number_23 : decode cX7_number 23 = .ok (.iload_n 1, 1) := by decide +kernel
theorem dX7_number_24 : decode cX7_number 24 = .ok (.iconst 5, 1) := by decide +kernel
theorem dX7_number_25 : decode cX7_number 25 = .ok (.imul, 1) := by decide +kernel
theorem dX7_number_26 : decode cX7_number 26 = .ok (.iload_n 2, 1) := by decide +kernel
theorem dX7_number_27 : decode cX7_number 27 = .ok (.iadd, 1) := by decide +kernel
theorem dX7_number_28 : decode cX7_number 28 = .ok (.iaload, 1) := by decide +kernel
theorem dX7_number_29 : decode cX7_number 29 = .ok (.goto 4, 3) := by decide +kernel
theorem dX7_number_32 : decode cX7_number 32 = .ok (.iconst (-1), 1) := by decide +kernel
theorem dX7_number_33 : decode cX7_number 33 = .ok (.ireturn, 1) := by decide +kernel
theorem dX7_findFault_0 : decode cX7_findFault 0 = .ok (.aload_n 0, 1) := by decide +kernel
theorem dX7_findFault_1 : decode cX7_findFault 1 = .ok (.iconst 0, 1) := by decide +kernel
theorem dX7_findFault_2 : decode cX7_findFault 2 = .ok (.putfield 30, 3) := by decide +kernel
theorem dX7_findFault_5 : decode cX7_findFault 5 = .ok (.aload_n 0, 1) := by decide +kernel
theorem dX7_findFault_6 : decode cX7_findFault 6 = .ok (.iconst 0, 1) := by decide +kernel
theorem dX7_findFault_7 : decode cX7_findFault 7 = .ok (.putfield 33, 3) := by decide +kernel
theorem dX7_findFault_10 : decode cX7_findFault 10 = .ok (.iconst 0, 1) := by decide +kernel
theorem dX7_findFault_11 : decode cX7_findFault 11 = .ok (.istore_n 1, 1) := by decide +kernel
theorem dX7_findFault_12 : decode cX7_findFault 12 = .ok (.iload_n 1, 1) := by decide +kernel
theorem dX7_findFault_13 : decode cX7_findFault 13 = .ok (.aload_n 0, 1) := by decide +kernel
theorem dX7_findFault_14 : decode cX7_findFault 14 = .ok (.getfield 26, 3) := by decide +kernel
theorem dX7_findFault_17 : decode cX7_findFault 17 = .ok (.if_icmp .ge 24, 3) := by decide +kernel
theorem dX7_findFault_20 : decode cX7_findFault 20 = .ok (.aload_n 0, 1) := by decide +kernel
theorem dX7_findFault_21 : decode cX7_findFault 21 = .ok (.aload_n 0, 1) := by decide +kernel
theorem dX7_findFault_22 : decode cX7_findFault 22 = .ok (.getfield 9, 3) := by decide +kernel
theorem dX7_findFault_25 : decode cX7_findFault 25 = .ok (.iload_n 1, 1) := by decide +kernel
theorem dX7_findFault_26 : decode cX7_findFault 26 = .ok (.baload, 1) := by decide +kernel
theorem dX7_findFault_27 : decode cX7_findFault 27 = .ok (.invokevirtual 37, 3) := by decide +kernel
theorem dX7_findFault_30 : decode cX7_findFault 30 = .ok (.ifCond .ne 5, 3) := by decide +kernel
theorem dX7_findFault_33 : decode cX7_findFault 33 = .ok (.iload_n 1, 1) := by decide +kernel
theorem dX7_findFault_34 : decode cX7_findFault 34 = .ok (.ireturn, 1) := by decide +kernel
theorem dX7_findFault_35 : decode cX7_findFault 35 = .ok (.iinc 1 1, 3) := by decide +kernel
theorem dX7_findFault_38 : decode cX7_findFault 38 = .ok (.goto (-26), 3) := by decide +kernel
theorem dX7_findFault_41 : decode cX7_findFault 41 = .ok (.aload_n 0, 1) := by decide +kernel
theorem dX7_findFault_42 : decode cX7_findFault 42 = .ok (.getfield 33, 3) := by decide +kernel
theorem dX7_findFault_45 : decode cX7_findFault 45 = .ok (.ifCond .ne 10, 3) := by decide +kernel
theorem dX7_findFault_48 : decode cX7_findFault 48 = .ok (.aload_n 0, 1) := by decide +kernel
theorem dX7_findFault_49 : decode cX7_findFault 49 = .ok (.getfield 30, 3) := by decide +kernel
theorem dX7_findFault_52 : decode cX7_findFault 52 = .ok (.ifCond .ne 10, 3) := by decide +kernel
theorem dX7_findFault_55 : decode cX7_findFault 55 = .ok (.aload_n 0, 1) := by decide +kernel
theorem dX7_findFault_56 : decode cX7_findFault 56 = .ok (.getfield 26, 3) := by decide +kernel
theorem dX7_findFault_59 : decode cX7_findFault 59 = .ok (.goto 4, 3) := by decide +kernel
theorem dX7_findFault_62 : decode cX7_findFault 62 = .ok (.iconst (-1), 1) := by decide +kernel
theorem dX7_findFault_63 : decode cX7_findFault 63 = .ok (.ireturn, 1) := by decide +kernel
theorem dX7_takes_0 : decode cX7_takes 0 = .ok (.iload_n 1, 1) := by decide +kernel
theorem dX7_takes_1 : decode cX7_takes 1 = .ok (.bipush 32, 2) := by decide +kernel
theorem dX7_takes_3 : decode cX7_takes 3 = .ok (.if_icmp .ne 10, 3) := by decide +kernel
theorem dX7_takes_6 : decode cX7_takes 6 = .ok (.aload_n 0, 1) := by decide +kernel
theorem dX7_takes_7 : decode cX7_takes 7 = .ok (.iconst 0, 1) := by decide +kernel
theorem dX7_takes_8 : decode cX7_takes 8 = .ok (.putfield 41, 3) := by decide +kernel
theorem dX7_takes_11 : decode cX7_takes 11 = .ok (.iconst 1, 1) := by decide +kernel
theorem dX7_takes_12 : decode cX7_takes 12 = .ok (.ireturn, 1) := by decide +kernel
theorem dX7_takes_13 : decode cX7_takes 13 = .ok (.aload_n 0, 1) := by decide +kernel
theorem dX7_takes_14 : decode cX7_takes 14 = .ok (.getfield 33, 3) := by decide +kernel
theorem dX7_takes_17 : decode cX7_takes 17 = .ok (.ifCond .ne 9, 3) := by decide +kernel
theorem dX7_takes_20 : decode cX7_takes 20 = .ok (.aload_n 0, 1) := by decide +kernel
theorem dX7_takes_21 : decode cX7_takes 21 = .ok (.iload_n 1, 1) := by decide +kernel
theorem dX7_takes_22 : decode cX7_takes 22 = .ok (.invokevirtual 44, 3) := by decide +kernel
theorem dX7_takes_25 : decode cX7_takes 25 = .ok (.ireturn, 1) := by decide +kernel
theorem dX7_takes_26 : decode cX7_takes 26 = .ok (.iload_n 1, 1) := by decide +kernel
theorem dX7_takes_27 : decode cX7_takes 27 = .ok (.bipush 48, 2) := by decide +kernel
theorem dX7_takes_29 : decode cX7_takes 29 = .ok (.if_icmp .lt 18, 3) := by decide +kernel
theorem dX7_takes_32 : decode cX7_takes 32 = .ok (.iload_n 1, 1) := by decide +kernel
theorem dX7_takes_33 : decode cX7_takes 33 = .ok (.bipush 57, 2) := by decide +kernel
theorem dX7_takes_35 : decode cX7_takes 35 = .ok (.if_icmp .gt 12, 3) := by decide +kernel
theorem dX7_takes_38 : decode cX7_takes 38 = .ok (.aload_n 0, 1) := by decide +kernel
theorem dX7_takes_39 : decode cX7_takes 39 = .ok (.iload_n 1, 1) := by decide +kernel
theorem dX7_takes_40 : decode cX7_takes 40 = .ok (.bipush 48, 2) := by decide +kernel
theorem dX7_takes_42 : decode cX7_takes 42 = .ok (.isub, 1) := by decide +kernel
theorem dX7_takes_43 : decode cX7_takes 43 = .ok (.invokevirtual 47, 3) := by decide +kernel
theorem dX7_takes_46 : decode cX7_takes 46 = .ok (.ireturn, 1) := by decide +kernel
theorem dX7_takes_47 : decode cX7_takes 47 = .ok (.iload_n 1, 1) := by decide +kernel
theorem dX7_takes_48 : decode cX7_takes 48 = .ok (.bipush 59, 2) := by decide +kernel
theorem dX7_takes_50 : decode cX7_takes 50 = .ok (.if_icmp .ne 22, 3) := by decide +kernel
theorem dX7_takes_53 : decode cX7_takes 53 = .ok (.aload_n 0, 1) := by decide +kernel
theorem dX7_takes_54 : decode cX7_takes 54 = .ok (.getfield 50, 3) := by decide +kernel
theorem dX7_takes_57 : decode cX7_takes 57 = .ok (.aload_n 0, 1) := by decide +kernel
theorem dX7_takes_58 : decode cX7_takes 58 = .ok (.getfield 15, 3) := by decide +kernel
theorem dX7_takes_61 : decode cX7_takes 61 = .ok (.aload_n 0, 1) := by decide +kernel
theorem dX7_takes_62 : decode cX7_takes 62 = .ok (.getfield 30, 3) := by decide +kernel
theorem dX7_takes_65 : decode cX7_takes 65 = .ok (.iaload, 1) := by decide +kernel
theorem dX7_takes_66 : decode cX7_takes 66 = .ok (.invokestatic 53, 3) := by decide +kernel
theorem dX7_takes_69 : decode cX7_takes 69 = .ok (.if_icmp .ge 5, 3) := by decide +kernel
theorem dX7_takes_72 : decode cX7_takes 72 = .ok (.iconst 0, 1) := by decide +kernel
theorem dX7_takes_73 : decode cX7_takes 73 = .ok (.ireturn, 1) := by decide +kernel
theorem dX7_takes_74 : decode cX7_takes 74 = .ok (.aload_n 0, 1) := by decide +kernel
theorem dX7_takes_75 : decode cX7_takes 75 = .ok (.iconst 0, 1) := by decide +kernel
theorem dX7_takes_76 : decode cX7_takes 76 = .ok (.putfield 33, 3) := by decide +kernel
theorem dX7_takes_79 : decode cX7_takes 79 = .ok (.aload_n 0, 1) := by decide +kernel
theorem dX7_takes_80 : decode cX7_takes 80 = .ok (.dup, 1) := by decide +kernel
theorem dX7_takes_81 : decode cX7_takes 81 = .ok (.getfield 30, 3) := by decide +kernel
theorem dX7_takes_84 : decode cX7_takes 84 = .ok (.iconst 1, 1) := by decide +kernel
theorem dX7_takes_85 : decode cX7_takes 85 = .ok (.iadd, 1) := by decide +kernel
theorem dX7_takes_86 : decode cX7_takes 86 = .ok (.putfield 30, 3) := by decide +kernel
theorem dX7_takes_89 : decode cX7_takes 89 = .ok (.iconst 1, 1) := by decide +kernel
theorem dX7_takes_90 : decode cX7_takes 90 = .ok (.ireturn, 1) := by decide +kernel
theorem dX7_beginsOrder_0 : decode cX7_beginsOrder 0 = .ok (.iload_n 1, 1) := by decide +kernel
theorem dX7_beginsOrder_1 : decode cX7_beginsOrder 1 = .ok (.invokestatic 53, 3) := by decide +kernel
theorem dX7_beginsOrder_4 : decode cX7_beginsOrder 4 = .ok (.iconst (-1), 1) := by decide +kernel
theorem dX7_beginsOrder_5 : decode cX7_beginsOrder 5 = .ok (.if_icmp .eq 12, 3) := by decide +kernel
theorem dX7_beginsOrder_8 : decode cX7_beginsOrder 8 = .ok (.aload_n 0, 1) := by decide +kernel
theorem dX7_beginsOrder_9 : decode cX7_beginsOrder 9 = .ok (.getfield 30, 3) := by decide +kernel
theorem dX7_beginsOrder_12 : decode cX7_beginsOrder 12 = .ok (.bipush 60, 2) := by decide +kernel
theorem dX7_beginsOrder_14 : decode cX7_beginsOrder 14 = .ok (.if_icmp .lt 5, 3) := by decide +kernel
theorem dX7_beginsOrder_17 : decode cX7_beginsOrder 17 = .ok (.iconst 0, 1) := by decide +kernel
theorem dX7_beginsOrder_18 : decode cX7_beginsOrder 18 = .ok (.ireturn, 1) := by decide +kernel
theorem dX7_beginsOrder_19 : decode cX7_beginsOrder 19 = .ok (.aload_n 0, 1) := by decide +kernel
theorem dX7_beginsOrder_20 : decode cX7_beginsOrder 20 = .ok (.getfield 15, 3) := by decide +kernel
theorem dX7_beginsOrder_23 : decode cX7_beginsOrder 23 = .ok (.aload_n 0, 1) := by decide +kernel
theorem dX7_beginsOrder_24 : decode cX7_beginsOrder 24 = .ok (.getfield 30, 3) := by decide +kernel
theorem dX7_beginsOrder_27 : decode cX7_beginsOrder 27 = .ok (.iload_n 1, 1) := by decide +kernel
theorem dX7_beginsOrder_28 : decode cX7_beginsOrder 28 = .ok (.iastore, 1) := by decide +kernel
theorem dX7_beginsOrder_29 : decode cX7_beginsOrder 29 = .ok (.iconst 0, 1) := by decide +kernel
theorem dX7_beginsOrder_30 : decode cX7_beginsOrder 30 = .ok (.istore_n 2, 1) := by decide +kernel
theorem dX7_beginsOrder_31 : decode cX7_beginsOrder 31 = .ok (.iload_n 2, 1) := by decide +kernel
theorem dX7_beginsOrder_32 : decode cX7_beginsOrder 32 = .ok (.iconst 5, 1) := by decide +kernel
theorem dX7_beginsOrder_33 : decode cX7_beginsOrder 33 = .ok (.if_icmp .ge 23, 3) := by decide +kernel
theorem dX7_beginsOrder_36 : decode cX7_beginsOrder 36 = .ok (.aload_n 0, 1) := by decide +kernel
theorem dX7_beginsOrder_37 : decode cX7_beginsOrder 37 = .ok (.getfield 19, 3) := by decide +kernel
theorem dX7_beginsOrder_40 : decode cX7_beginsOrder 40 = .ok (.aload_n 0, 1) := by decide +kernel
theorem dX7_beginsOrder_41 : decode cX7_beginsOrder 41 = .ok (.getfield 30, 3) := by decide +kernel
theorem dX7_beginsOrder_44 : decode cX7_beginsOrder 44 = .ok (.iconst 5, 1) := by decide +kernel
theorem dX7_beginsOrder_45 : decode cX7_beginsOrder 45 = .ok (.imul, 1) := by decide +kernel
theorem dX7_beginsOrder_46 : decode cX7_beginsOrder 46 = .ok (.iload_n 2, 1) := by decide +kernel
theorem dX7_beginsOrder_47 : decode cX7_beginsOrder 47 = .ok (.iadd, 1) := by decide +kernel
theorem dX7_beginsOrder_48 : decode cX7_beginsOrder 48 = .ok (.iconst (-1), 1) := by decide +kernel
theorem dX7_beginsOrder_49 : decode cX7_beginsOrder 49 = .ok (.iastore, 1) := by decide +kernel
theorem dX7_beginsOrder_50 : decode cX7_beginsOrder 50 = .ok (.iinc 2 1, 3) := by decide +kernel
theorem dX7_beginsOrder_53 : decode cX7_beginsOrder 53 = .ok (.goto (-22), 3) := by decide +kernel
theorem dX7_beginsOrder_56 : decode cX7_beginsOrder 56 = .ok (.aload_n 0, 1) := by decide +kernel
theorem dX7_beginsOrder_57 : decode cX7_beginsOrder 57 = .ok (.iconst 1, 1) := by decide +kernel
theorem dX7_beginsOrder_58 : decode cX7_beginsOrder 58 = .ok (.putfield 33, 3) := by decide +kernel
theorem dX7_beginsOrder_61 : decode cX7_beginsOrder 61 = .ok (.aload_n 0, 1) := by decide +kernel
theorem dX7_beginsOrder_62 : decode cX7_beginsOrder 62 = .ok (.iconst 0, 1) := by decide +kernel
theorem dX7_beginsOrder_63 : decode cX7_beginsOrder 63 = .ok (.putfield 50, 3) := by decide +kernel
theorem dX7_beginsOrder_66 : decode cX7_beginsOrder 66 = .ok (.aload_n 0, 1) := by decide +kernel
theorem dX7_beginsOrder_67 : decode cX7_beginsOrder 67 = .ok (.iconst 0, 1) := by decide +kernel
theorem dX7_beginsOrder_68 : decode cX7_beginsOrder 68 = .ok (.putfield 41, 3) := by decide +kernel
theorem dX7_beginsOrder_71 : decode cX7_beginsOrder 71 = .ok (.iconst 1, 1) := by decide +kernel
theorem dX7_beginsOrder_72 : decode cX7_beginsOrder 72 = .ok (.ireturn, 1) := by decide +kernel
theorem dX7_takesDigit_0 : decode cX7_takesDigit 0 = .ok (.aload_n 0, 1) := by decide +kernel
theorem dX7_takesDigit_1 : decode cX7_takesDigit 1 = .ok (.getfield 41, 3) := by decide +kernel
theorem dX7_takesDigit_4 : decode cX7_takesDigit 4 = .ok (.iconst 3, 1) := by decide +kernel
theorem dX7_takesDigit_5 : decode cX7_takesDigit 5 = .ok (.if_icmp .eq 29, 3) := by decide +kernel
theorem dX7_takesDigit_8 : decode cX7_takesDigit 8 = .ok (.aload_n 0, 1) := by decide +kernel
theorem dX7_takesDigit_9 : decode cX7_takesDigit 9 = .ok (.getfield 41, 3) := by decide +kernel
theorem dX7_takesDigit_12 : decode cX7_takesDigit 12 = .ok (.ifCond .ne 24, 3) := by decide +kernel
theorem dX7_takesDigit_15 : decode cX7_takesDigit 15 = .ok (.aload_n 0, 1) := by decide +kernel
theorem dX7_takesDigit_16 : decode cX7_takesDigit 16 = .ok (.getfield 50, 3) := by decide +kernel
theorem dX7_takesDigit_19 : decode cX7_takesDigit 19 = .ok (.aload_n 0, 1) := by decide +kernel
theorem dX7_takesDigit_20 : decode cX7_takesDigit 20 = .ok (.getfield 15, 3) := by decide +kernel
theorem dX7_takesDigit_23 : decode cX7_takesDigit 23 = .ok (.aload_n 0, 1) := by decide +kernel
theorem dX7_takesDigit_24 : decode cX7_takesDigit 24 = .ok (.getfield 30, 3) := by decide +kernel
theorem dX7_takesDigit_27 : decode cX7_takesDigit 27 = .ok (.iaload, 1) := by decide +kernel
theorem dX7_takesDigit_28 : decode cX7_takesDigit 28 = .ok (.invokestatic 57, 3) := by decide +kernel
theorem dX7_takesDigit_31 : decode cX7_takesDigit 31 = .ok (.if_icmp .ne 5, 3) := by decide +kernel
theorem dX7_takesDigit_34 : decode cX7_takesDigit 34 = .ok (.iconst 0, 1) := by decide +kernel
theorem dX7_takesDigit_35 : decode cX7_takesDigit 35 = .ok (.ireturn, 1) := by decide +kernel
theorem dX7_takesDigit_36 : decode cX7_takesDigit 36 = .ok (.aload_n 0, 1) := by decide +kernel
theorem dX7_takesDigit_37 : decode cX7_takesDigit 37 = .ok (.getfield 41, 3) := by decide +kernel
theorem dX7_takesDigit_40 : decode cX7_takesDigit 40 = .ok (.ifCond .ne 30, 3) := by decide +kernel
theorem dX7_takesDigit_43 : decode cX7_takesDigit 43 = .ok (.aload_n 0, 1) := by decide +kernel
theorem dX7_takesDigit_44 : decode cX7_takesDigit 44 = .ok (.getfield 19, 3) := by decide +kernel
theorem dX7_takesDigit_47 : decode cX7_takesDigit 47 = .ok (.aload_n 0, 1) := by decide +kernel
theorem dX7_takesDigit_48 : decode cX7_takesDigit 48 = .ok (.getfield 30, 3) := by decide +kernel
theorem dX7_takesDigit_51 : decode cX7_takesDigit 51 = .ok (.iconst 5, 1) := by decide +kernel
theorem dX7_takesDigit_52 : decode cX7_takesDigit 52 = .ok (.imul, 1) := by decide +kernel
theorem dX7_takesDigit_53 : decode cX7_takesDigit 53 = .ok (.aload_n 0, 1) := by decide +kernel
theorem dX7_takesDigit_54 : decode cX7_takesDigit 54 = .ok (.getfield 50, 3) := by decide +kernel
theorem dX7_takesDigit_57 : decode cX7_takesDigit 57 = .ok (.iadd, 1) := by decide +kernel
theorem dX7_takesDigit_58 : decode cX7_takesDigit 58 = .ok (.iconst 0, 1) := by decide +kernel
theorem dX7_takesDigit_59 : decode cX7_takesDigit 59 = .ok (.iastore, 1) := by decide +kernel
theorem dX7_takesDigit_60 : decode cX7_takesDigit 60 = .ok (.aload_n 0, 1) := by decide +kernel
theorem dX7_takesDigit_61 : decode cX7_takesDigit 61 = .ok (.dup, 1) := by decide +kernel
theorem dX7_takesDigit_62 : decode cX7_takesDigit 62 = .ok (.getfield 50, 3) := by decide +kernel
theorem dX7_takesDigit_65 : decode cX7_takesDigit 65 = .ok (.iconst 1, 1) := by decide +kernel
theorem dX7_takesDigit_66 : decode cX7_takesDigit 66 = .ok (.iadd, 1) := by decide +kernel
theorem dX7_takesDigit_67 : decode cX7_takesDigit 67 = .ok (.putfield 50, 3) := by decide +kernel
theorem dX7_takesDigit_70 : decode cX7_takesDigit 70 = .ok (.aload_n 0, 1) := by decide +kernel
theorem dX7_takesDigit_71 : decode cX7_takesDigit 71 = .ok (.getfield 30, 3) := by decide +kernel
theorem dX7_takesDigit_74 : decode cX7_takesDigit 74 = .ok (.iconst 5, 1) := by decide +kernel
theorem dX7_takesDigit_75 : decode cX7_takesDigit 75 = .ok (.imul, 1) := by decide +kernel
theorem dX7_takesDigit_76 : decode cX7_takesDigit 76 = .ok (.aload_n 0, 1) := by decide +kernel
theorem dX7_takesDigit_77 : decode cX7_takesDigit 77 = .ok (.getfield 50, 3) := by decide +kernel
theorem dX7_takesDigit_80 : decode cX7_takesDigit 80 = .ok (.iadd, 1) := by decide +kernel
theorem dX7_takesDigit_81 : decode cX7_takesDigit 81 = .ok (.iconst 1, 1) := by decide +kernel
theorem dX7_takesDigit_82 : decode cX7_takesDigit 82 = .ok (.isub, 1) := by decide +kernel
theorem dX7_takesDigit_83 : decode cX7_takesDigit 83 = .ok (.istore_n 2, 1) := by decide +kernel
theorem dX7_takesDigit_84 : decode cX7_takesDigit 84 = .ok (.aload_n 0, 1) := by decide +kernel
theorem dX7_takesDigit_85 : decode cX7_takesDigit 85 = .ok (.getfield 19, 3) := by decide +kernel
theorem dX7_takesDigit_88 : decode cX7_takesDigit 88 = .ok (.iload_n 2, 1) := by decide +kernel
theorem dX7_takesDigit_89 : decode cX7_takesDigit 89 = .ok (.aload_n 0, 1) := by decide +kernel
theorem dX7_takesDigit_90 : decode cX7_takesDigit 90 = .ok (.getfield 19, 3) := by decide +kernel
theorem dX7_takesDigit_93 : decode cX7_takesDigit 93 = .ok (.iload_n 2, 1) := by decide +kernel
theorem dX7_takesDigit_94 : decode cX7_takesDigit 94 = .ok (.iaload, 1) := by decide +kernel
theorem dX7_takesDigit_95 : decode cX7_takesDigit 95 = .ok (.bipush 10, 2) := by decide +kernel
theorem dX7_takesDigit_97 : decode cX7_takesDigit 97 = .ok (.imul, 1) := by decide +kernel
theorem dX7_takesDigit_98 : decode cX7_takesDigit 98 = .ok (.iload_n 1, 1) := by decide +kernel
theorem dX7_takesDigit_99 : decode cX7_takesDigit 99 = .ok (.iadd, 1) := by decide +kernel
theorem dX7_takesDigit_100 : decode cX7_takesDigit 100 = .ok (.iastore, 1) := by decide +kernel
theorem dX7_takesDigit_101 : decode cX7_takesDigit 101 = .ok (.aload_n 0, 1) := by decide +kernel
theorem dX7_takesDigit_102 : decode cX7_takesDigit 102 = .ok (.dup, 1) := by decide +kernel
theorem dX7_takesDigit_103 : decode cX7_takesDigit 103 = .ok (.getfield 41, 3) := by decide +kernel
theorem dX7_takesDigit_106 : decode cX7_takesDigit 106 = .ok (.iconst 1, 1) := by decide +kernel
theorem dX7_takesDigit_107 : decode cX7_takesDigit 107 = .ok (.iadd, 1) := by decide +kernel
theorem dX7_takesDigit_108 : decode cX7_takesDigit 108 = .ok (.putfield 41, 3) := by decide +kernel
theorem dX7_takesDigit_111 : decode cX7_takesDigit 111 = .ok (.iconst 1, 1) := by decide +kernel
theorem dX7_takesDigit_112 : decode cX7_takesDigit 112 = .ok (.ireturn, 1) := by decide +kernel
theorem dX7_leastNumbers_0 : decode cX7_leastNumbers 0 = .ok (.iload_n 0, 1) := by decide +kernel
theorem dX7_leastNumbers_1 : decode cX7_leastNumbers 1 = .ok (.tableswitch 129 97 122 #[125, 129, 127, 129, 129, 129, 123, 119, 129, 129, 129, 129, 129, 129, 129, 129, 129, 129, 127, 121, 129, 129, 121, 129, 129, 121], 119) := by decide +kernel
theorem dX7_leastNumbers_120 : decode cX7_leastNumbers 120 = .ok (.iconst 0, 1) := by decide +kernel
theorem dX7_leastNumbers_121 : decode cX7_leastNumbers 121 = .ok (.ireturn, 1) := by decide +kernel
theorem dX7_leastNumbers_122 : decode cX7_leastNumbers 122 = .ok (.iconst 1, 1) := by decide +kernel
theorem dX7_leastNumbers_123 : decode cX7_leastNumbers 123 = .ok (.ireturn, 1) := by decide +kernel
theorem dX7_leastNumbers_124 : decode cX7_leastNumbers 124 = .ok (.iconst 2, 1) := by decide +kernel
theorem dX7_leastNumbers_125 : decode cX7_leastNumbers 125 = .ok (.ireturn, 1) := by decide +kernel
theorem dX7_leastNumbers_126 : decode cX7_leastNumbers 126 = .ok (.iconst 3, 1) := by decide +kernel
theorem dX7_leastNumbers_127 : decode cX7_leastNumbers 127 = .ok (.ireturn, 1) := by decide +kernel
theorem dX7_leastNumbers_128 : decode cX7_leastNumbers 128 = .ok (.iconst 5, 1) := by decide +kernel
theorem dX7_leastNumbers_129 : decode cX7_leastNumbers 129 = .ok (.ireturn, 1) := by decide +kernel
theorem dX7_leastNumbers_130 : decode cX7_leastNumbers 130 = .ok (.iconst (-1), 1) := by decide +kernel
theorem dX7_leastNumbers_131 : decode cX7_leastNumbers 131 = .ok (.ireturn, 1) := by decide +kernel
theorem dX7_mostNumbers_0 : decode cX7_mostNumbers 0 = .ok (.iload_n 0, 1) := by decide +kernel
theorem dX7_mostNumbers_1 : decode cX7_mostNumbers 1 = .ok (.bipush 122, 2) := by decide +kernel
theorem dX7_mostNumbers_3 : decode cX7_mostNumbers 3 = .ok (.if_icmp .ne 7, 3) := by decide +kernel
theorem dX7_mostNumbers_6 : decode cX7_mostNumbers 6 = .ok (.iconst 2, 1) := by decide +kernel
theorem dX7_mostNumbers_7 : decode cX7_mostNumbers 7 = .ok (.goto 7, 3) := by decide +kernel
theorem dX7_mostNumbers_10 : decode cX7_mostNumbers 10 = .ok (.iload_n 0, 1) := by decide +kernel
theorem dX7_mostNumbers_11 : decode cX7_mostNumbers 11 = .ok (.invokestatic 53, 3) := by decide +kernel
theorem dX7_mostNumbers_14 : decode cX7_mostNumbers 14 = .ok (.ireturn, 1) := by decide +kernel
theorem dX8_init_0 : decode cX8_init 0 = .ok (.aload_n 0, 1) := by decide +kernel
theorem dX8_init_1 : decode cX8_init 1 = .ok (.invokespecial 3, 3) := by decide +kernel
theorem dX8_init_4 : decode cX8_init 4 = .ok (.aload_n 0, 1) := by decide +kernel
theorem dX8_init_5 : decode cX8_init 5 = .ok (.new 9, 3) := by decide +kernel
theorem dX8_init_8 : decode cX8_init 8 = .ok (.dup, 1) := by decide +kernel
theorem dX8_init_9 : decode cX8_init 9 = .ok (.invokespecial 11, 3) := by decide +kernel
theorem dX8_init_12 : decode cX8_init 12 = .ok (.putfield 12, 3) := by decide +kernel
theorem dX8_init_15 : decode cX8_init 15 = .ok (.aload_n 0, 1) := by decide +kernel
theorem dX8_init_16 : decode cX8_init 16 = .ok (.new 16, 3) := by decide +kernel
theorem dX8_init_19 : decode cX8_init 19 = .ok (.dup, 1) := by decide +kernel
theorem dX8_init_20 : decode cX8_init 20 = .ok (.invokespecial 18, 3) := by decide +kernel
theorem dX8_init_23 : decode cX8_init 23 = .ok (.putfield 19, 3) := by decide +kernel
theorem dX8_init_26 : decode cX8_init 26 = .ok (.aload_n 0, 1) := by decide +kernel
theorem dX8_init_27 : decode cX8_init 27 = .ok (.new 23, 3) := by decide +kernel
theorem dX8_init_30 : decode cX8_init 30 = .ok (.dup, 1) := by decide +kernel
theorem dX8_init_31 : decode cX8_init 31 = .ok (.invokespecial 25, 3) := by decide +kernel
theorem dX8_init_34 : decode cX8_init 34 = .ok (.putfield 26, 3) := by decide +kernel
theorem dX8_init_37 : decode cX8_init 37 = .ok (.aload_n 0, 1) := by decide +kernel
theorem dX8_init_38 : decode cX8_init 38 = .ok (.iconst (-1), 1) := by decide +kernel
theorem dX8_init_39 : decode cX8_init 39 = .ok (.putfield 30, 3) := by decide +kernel
theorem dX8_init_42 : decode cX8_init 42 = .ok (.return_, 1) := by decide +kernel
theorem dX8_host_0 : decode cX8_host 0 = .ok (.aload_n 0, 1) := by decide +kernel
theorem dX8_host_1 : decode cX8_host 1 = .ok (.getfield 19, 3) := by decide +kernel
theorem dX8_host_4 : decode cX8_host 4 = .ok (.aload_n 0, 1) := by decide +kernel
theorem dX8_host_5 : decode cX8_host 5 = .ok (.getfield 12, 3) := by decide +kernel
theorem dX8_host_8 : decode cX8_host 8 = .ok (.invokevirtual 34, 3) := by decide +kernel
theorem dX8_host_11 : decode cX8_host 11 = .ok (.aload_n 0, 1) := by decide +kernel
theorem dX8_host_12 : decode cX8_host 12 = .ok (.aload_n 0, 1) := by decide +kernel
theorem dX8_host_13 : decode cX8_host 13 = .ok (.getfield 12, 3) := by decide +kernel
theorem dX8_host_16 : decode cX8_host 16 = .ok (.invokevirtual 38, 3) := by decide +kernel
theorem dX8_host_19 : decode cX8_host 19 = .ok (.invokevirtual 42, 3) := by decide +kernel
theorem dX8_host_22 : decode cX8_host 22 = .ok (.ireturn, 1) := by decide +kernel
theorem dX8_claims_0 : decode cX8_claims 0 = .ok (.aload_n 0, 1) := by decide +kernel
theorem dX8_claims_1 : decode cX8_claims 1 = .ok (.getfield 19, 3) := by decide +kernel
theorem dX8_claims_4 : decode cX8_claims 4 = .ok (.aload_n 0, 1) := by decide +kernel
theorem dX8_claims_5 : decode cX8_claims 5 = .ok (.getfield 12, 3) := by decide +kernel
theorem dX8_claims_8 : decode cX8_claims 8 = .ok (.invokevirtual 34, 3) := by decide +kernel
theorem dX8_claims_11 : decode cX8_claims 11 = .ok (.aload_n 0, 1) := by decide +kernel
theorem dX8_claims_12 : decode cX8_claims 12 = .ok (.aload_n 0, 1) := by decide +kernel
theorem dX8_claims_13 : decode cX8_claims 13 = .ok (.getfield 12, 3) := by decide +kernel
theorem dX8_claims_16 : decode cX8_claims 16 = .ok (.iload_n 1, 1) := by decide +kernel
theorem dX8_claims_17 : decode cX8_claims 17 = .ok (.iload_n 2, 1) := by decide +kernel
theorem dX8_claims_18 : decode cX8_claims 18 = .ok (.iload_n 3, 1) := by decide +kernel
theorem dX8_claims_19 : decode cX8_claims 19 = .ok (.iload 4, 2) := by decide +kernel
theorem dX8_claims_21 : decode cX8_claims 21 = .ok (.iload 5, 2) := by decide +kernel
theorem dX8_claims_23 : decode cX8_claims 23 = .ok (.invokevirtual 46, 3) := by decide +kernel
theorem dX8_claims_26 : decode cX8_claims 26 = .ok (.invokevirtual 42, 3) := by decide +kernel
theorem dX8_claims_29 : decode cX8_claims 29 = .ok (.ireturn, 1) := by decide +kernel
theorem dX8_shares_0 : decode cX8_shares 0 = .ok (.aload_n 0, 1) := by decide +kernel
theorem dX8_shares_1 : decode cX8_shares 1 = .ok (.getfield 19, 3) := by decide +kernel
theorem dX8_shares_4 : decode cX8_shares 4 = .ok (.aload_n 0, 1) := by decide +kernel
theorem dX8_shares_5 : decode cX8_shares 5 = .ok (.getfield 12, 3) := by decide +kernel
theorem dX8_shares_8 : decode cX8_shares 8 = .ok (.invokevirtual 34, 3) := by decide +kernel
theorem dX8_shares_11 : decode cX8_shares 11 = .ok (.aload_n 0, 1) := by decide +kernel
theorem dX8_shares_12 : decode cX8_shares 12 = .ok (.aload_n 0, 1) := by decide +kernel
theorem dX8_shares_13 : decode cX8_shares 13 = .ok (.getfield 12, 3) := by decide +kernel
theorem dX8_shares_16 : decode cX8_shares 16 = .ok (.iload_n 1, 1) := by decide +kernel
theorem dX8_shares_17 : decode cX8_shares 17 = .ok (.iload_n 2, 1) := by decide +kernel
theorem dX8_shares_18 : decode cX8_shares 18 = .ok (.iload_n 3, 1) := by decide +kernel
theorem dX8_shares_19 : decode cX8_shares 19 = .ok (.iload 4, 2) := by decide +kernel
theorem dX8_shares_21 : decode cX8_shares 21 = .ok (.iload 5, 2) := by decide +kernel
theorem dX8_shares_23 : decode cX8_shares 23 = .ok (.invokevirtual 50, 3) := by decide +kernel
theorem dX8_shares_26 : decode cX8_shares 26 = .ok (.invokevirtual 42, 3) := by decide +kernel
theorem dX8_shares_29 : decode cX8_shares 29 = .ok (.ireturn, 1) := by decide +kernel
theorem dX8_leaves_0 : decode cX8_leaves 0 = .ok (.aload_n 0, 1) := by decide +kernel
theorem dX8_leaves_1 : decode cX8_leaves 1 = .ok (.getfield 19, 3) := by decide +kernel
theorem dX8_leaves_4 : decode cX8_leaves 4 = .ok (.aload_n 0, 1) := by decide +kernel
theorem dX8_leaves_5 : decode cX8_leaves 5 = .ok (.getfield 12, 3) := by decide +kernel
theorem dX8_leaves_8 : decode cX8_leaves 8 = .ok (.invokevirtual 34, 3) := by decide +kernel
theorem dX8_leaves_11 : decode cX8_leaves 11 = .ok (.aload_n 0, 1) := by decide +kernel
theorem dX8_leaves_12 : decode cX8_leaves 12 = .ok (.aload_n 0, 1) := by decide +kernel
theorem dX8_leaves_13 : decode cX8_leaves 13 = .ok (.getfield 12, 3) := by decide +kernel
theorem dX8_leaves_16 : decode cX8_leaves 16 = .ok (.iload_n 1, 1) := by decide +kernel
theorem dX8_leaves_17 : decode cX8_leaves 17 = .ok (.iload_n 2, 1) := by decide +kernel
theorem dX8_leaves_18 : decode cX8_leaves 18 = .ok (.invokevirtual 53, 3) := by decide +kernel
theorem dX8_leaves_21 : decode cX8_leaves 21 = .ok (.invokevirtual 42, 3) := by decide +kernel
theorem dX8_leaves_24 : decode cX8_leaves 24 = .ok (.ireturn, 1) := by decide +kernel
theorem dX8_record_0 : decode cX8_record 0 = .ok (.aload_n 0, 1) := by decide +kernel
theorem dX8_record_1 : decode cX8_record 1 = .ok (.aload_n 0, 1) := by decide +kernel
theorem dX8_record_2 : decode cX8_record 2 = .ok (.getfield 12, 3) := by decide +kernel
theorem dX8_record_5 : decode cX8_record 5 = .ok (.iload_n 1, 1) := by decide +kernel
theorem dX8_record_6 : decode cX8_record 6 = .ok (.iload_n 2, 1) := by decide +kernel
theorem dX8_record_7 : decode cX8_record 7 = .ok (.iload_n 3, 1) := by decide +kernel
theorem dX8_record_8 : decode cX8_record 8 = .ok (.invokevirtual 57, 3) := by decide +kernel
theorem dX8_record_11 : decode cX8_record 11 = .ok (.invokevirtual 61, 3) := by decide +kernel
theorem dX8_record_14 : decode cX8_record 14 = .ok (.ireturn, 1) := by decide +kernel
theorem dX8_of_0 : decode cX8_of 0 = .ok (.aload_n 0, 1) := by decide +kernel
theorem dX8_of_1 : decode cX8_of 1 = .ok (.aload_n 0, 1) := by decide +kernel
theorem dX8_of_2 : decode cX8_of 2 = .ok (.getfield 12, 3) := by decide +kernel
theorem dX8_of_5 : decode cX8_of 5 = .ok (.iload_n 1, 1) := by decide +kernel
theorem dX8_of_6 : decode cX8_of 6 = .ok (.iload_n 2, 1) := by decide +kernel
theorem dX8_of_7 : decode cX8_of 7 = .ok (.invokevirtual 64, 3) := by decide +kernel
theorem dX8_of_10 : decode cX8_of 10 = .ok (.invokevirtual 61, 3) := by decide +kernel
theorem dX8_of_13 : decode cX8_of 13 = .ok (.ireturn, 1) := by decide +kernel
theorem dX8_ticks_0 : decode cX8_ticks 0 = .ok (.aload_n 0, 1) := by decide +kernel
theorem dX8_ticks_1 : decode cX8_ticks 1 = .ok (.getfield 19, 3) := by decide +kernel
theorem dX8_ticks_4 : decode cX8_ticks 4 = .ok (.aload_n 0, 1) := by decide +kernel
theorem dX8_ticks_5 : decode cX8_ticks 5 = .ok (.getfield 12, 3) := by decide +kernel
theorem dX8_ticks_8 : decode cX8_ticks 8 = .ok (.invokevirtual 34, 3) := by decide +kernel
theorem dX8_ticks_11 : decode cX8_ticks 11 = .ok (.aload_n 0, 1) := by decide +kernel
theorem dX8_ticks_12 : decode cX8_ticks 12 = .ok (.aload_n 0, 1) := by decide +kernel
theorem dX8_ticks_13 : decode cX8_ticks 13 = .ok (.getfield 12, 3) := by decide +kernel
theorem dX8_ticks_16 : decode cX8_ticks 16 = .ok (.iload_n 1, 1) := by decide +kernel
theorem dX8_ticks_17 : decode cX8_ticks 17 = .ok (.invokevirtual 67, 3) := by decide +kernel
theorem dX8_ticks_20 : decode cX8_ticks 20 = .ok (.invokevirtual 42, 3) := by decide +kernel
theorem dX8_ticks_23 : decode cX8_ticks 23 = .ok (.ireturn, 1) := by decide +kernel
theorem dX8_rate_0 : decode cX8_rate 0 = .ok (.aload_n 0, 1) := by decide +kernel
theorem dX8_rate_1 : decode cX8_rate 1 = .ok (.getfield 12, 3) := by decide +kernel
theorem dX8_rate_4 : decode cX8_rate 4 = .ok (.getfield 70, 3) := by decide +kernel
theorem dX8_rate_7 : decode cX8_rate 7 = .ok (.invokestatic 74, 3) := by decide +kernel
theorem dX8_rate_10 : decode cX8_rate 10 = .ok (.ireturn, 1) := by decide +kernel
theorem dX8_asks_0 : decode cX8_asks 0 = .ok (.aload_n 0, 1) := by decide +kernel
theorem dX8_asks_1 : decode cX8_asks 1 = .ok (.getfield 19, 3) := by decide +kernel
theorem dX8_asks_4 : decode cX8_asks 4 = .ok (.aload_n 0, 1) := by decide +kernel
theorem dX8_asks_5 : decode cX8_asks 5 = .ok (.getfield 12, 3) := by decide +kernel
theorem dX8_asks_8 : decode cX8_asks 8 = .ok (.invokevirtual 34, 3) := by decide +kernel
theorem dX8_asks_11 : decode cX8_asks 11 = .ok (.aload_n 0, 1) := by decide +kernel
theorem dX8_asks_12 : decode cX8_asks 12 = .ok (.aload_n 0, 1) := by decide +kernel
theorem dX8_asks_13 : decode cX8_asks 13 = .ok (.getfield 12, 3) := by decide +kernel
theorem dX8_asks_16 : decode cX8_asks 16 = .ok (.iload_n 1, 1) := by decide +kernel
theorem dX8_asks_17 : decode cX8_asks 17 = .ok (.iload_n 2, 1) := by decide +kernel
theorem dX8_asks_18 : decode cX8_asks 18 = .ok (.iload_n 3, 1) := by decide +kernel
theorem dX8_asks_19 : decode cX8_asks 19 = .ok (.invokevirtual 78, 3) := by decide +kernel
theorem dX8_asks_22 : decode cX8_asks 22 = .ok (.invokevirtual 42, 3) := by decide +kernel
theorem dX8_asks_25 : decode cX8_asks 25 = .ok (.ireturn, 1) := by decide +kernel
theorem dX8_entry_0 : decode cX8_entry 0 = .ok (.aload_n 0, 1) := by decide +kernel
theorem dX8_entry_1 : decode cX8_entry 1 = .ok (.aload_n 0, 1) := by decide +kernel
theorem dX8_entry_2 : decode cX8_entry 2 = .ok (.getfield 12, 3) := by decide +kernel
theorem dX8_entry_5 : decode cX8_entry 5 = .ok (.iload_n 1, 1) := by decide +kernel
theorem dX8_entry_6 : decode cX8_entry 6 = .ok (.iload_n 2, 1) := by decide +kernel
theorem dX8_entry_7 : decode cX8_entry 7 = .ok (.iload_n 3, 1) := by decide +kernel
theorem dX8_entry_8 : decode cX8_entry 8 = .ok (.invokevirtual 81, 3) := by decide +kernel
theorem dX8_entry_11 : decode cX8_entry 11 = .ok (.invokevirtual 61, 3) := by decide +kernel
theorem dX8_entry_14 : decode cX8_entry 14 = .ok (.ireturn, 1) := by decide +kernel
theorem dX8_finds_0 : decode cX8_finds 0 = .ok (.aload_n 0, 1) := by decide +kernel
theorem dX8_finds_1 : decode cX8_finds 1 = .ok (.aload_n 0, 1) := by decide +kernel
theorem dX8_finds_2 : decode cX8_finds 2 = .ok (.getfield 12, 3) := by decide +kernel
theorem dX8_finds_5 : decode cX8_finds 5 = .ok (.iload_n 1, 1) := by decide +kernel
theorem dX8_finds_6 : decode cX8_finds 6 = .ok (.iload_n 2, 1) := by decide +kernel
theorem dX8_finds_7 : decode cX8_finds 7 = .ok (.iload_n 3, 1) := by decide +kernel
theorem dX8_finds_8 : decode cX8_finds 8 = .ok (.iload 4, 2) := by decide +kernel
theorem dX8_finds_10 : decode cX8_finds 10 = .ok (.invokevirtual 84, 3) := by decide +kernel
theorem dX8_finds_13 : decode cX8_finds 13 = .ok (.invokevirtual 61, 3) := by decide +kernel
theorem dX8_finds_16 : decode cX8_finds 16 = .ok (.ireturn, 1) := by decide +kernel
theorem dX8_owner_0 : decode cX8_owner 0 = .ok (.aload_n 0, 1) := by decide +kernel
theorem dX8_owner_1 : decode cX8_owner 1 = .ok (.aload_n 0, 1) := by decide +kernel
theorem dX8_owner_2 : decode cX8_owner 2 = .ok (.getfield 12, 3) := by decide +kernel
theorem dX8_owner_5 : decode cX8_owner 5 = .ok (.iload_n 1, 1) := by decide +kernel
theorem dX8_owner_6 : decode cX8_owner 6 = .ok (.iload_n 2, 1) := by decide +kernel
theorem dX8_owner_7 : decode cX8_owner 7 = .ok (.iload_n 3, 1) := by decide +kernel
theorem dX8_owner_8 : decode cX8_owner 8 = .ok (.invokevirtual 88, 3) := by decide +kernel
theorem dX8_owner_11 : decode cX8_owner 11 = .ok (.invokevirtual 61, 3) := by decide +kernel
theorem dX8_owner_14 : decode cX8_owner 14 = .ok (.ireturn, 1) := by decide +kernel
theorem dX8_all_0 : decode cX8_all 0 = .ok (.aload_n 0, 1) := by decide +kernel
theorem dX8_all_1 : decode cX8_all 1 = .ok (.aload_n 0, 1) := by decide +kernel
theorem dX8_all_2 : decode cX8_all 2 = .ok (.getfield 12, 3) := by decide +kernel
theorem dX8_all_5 : decode cX8_all 5 = .ok (.iload_n 1, 1) := by decide +kernel
theorem dX8_all_6 : decode cX8_all 6 = .ok (.invokevirtual 91, 3) := by decide +kernel
theorem dX8_all_9 : decode cX8_all 9 = .ok (.invokevirtual 61, 3) := by decide +kernel
theorem dX8_all_12 : decode cX8_all 12 = .ok (.ireturn, 1) := by decide +kernel
theorem dX8_sleeps_0 : decode cX8_sleeps 0 = .ok (.aload_n 0, 1) := by decide +kernel
theorem dX8_sleeps_1 : decode cX8_sleeps 1 = .ok (.getfield 19, 3) := by decide +kernel
theorem dX8_sleeps_4 : decode cX8_sleeps 4 = .ok (.aload_n 0, 1) := by decide +kernel
theorem dX8_sleeps_5 : decode cX8_sleeps 5 = .ok (.getfield 12, 3) := by decide +kernel
theorem dX8_sleeps_8 : decode cX8_sleeps 8 = .ok (.invokevirtual 34, 3) := by decide +kernel
theorem dX8_sleeps_11 : decode cX8_sleeps 11 = .ok (.aload_n 0, 1) := by decide +kernel
theorem dX8_sleeps_12 : decode cX8_sleeps 12 = .ok (.aload_n 0, 1) := by decide +kernel
theorem dX8_sleeps_13 : decode cX8_sleeps 13 = .ok (.getfield 12, 3) := by decide +kernel
theorem dX8_sleeps_16 : decode cX8_sleeps 16 = .ok (.iload_n 1, 1) := by decide +kernel
theorem dX8_sleeps_17 : decode cX8_sleeps 17 = .ok (.iload_n 2, 1) := by decide +kernel
theorem dX8_sleeps_18 : decode cX8_sleeps 18 = .ok (.invokevirtual 94, 3) := by decide +kernel
theorem dX8_sleeps_21 : decode cX8_sleeps 21 = .ok (.invokevirtual 42, 3) := by decide +kernel
theorem dX8_sleeps_24 : decode cX8_sleeps 24 = .ok (.ireturn, 1) := by decide +kernel
theorem dX8_wakes_0 : decode cX8_wakes 0 = .ok (.aload_n 0, 1) := by decide +kernel
theorem dX8_wakes_1 : decode cX8_wakes 1 = .ok (.getfield 19, 3) := by decide +kernel
theorem dX8_wakes_4 : decode cX8_wakes 4 = .ok (.aload_n 0, 1) := by decide +kernel
theorem dX8_wakes_5 : decode cX8_wakes 5 = .ok (.getfield 12, 3) := by decide +kernel
theorem dX8_wakes_8 : decode cX8_wakes 8 = .ok (.invokevirtual 34, 3) := by decide +kernel
theorem dX8_wakes_11 : decode cX8_wakes 11 = .ok (.aload_n 0, 1) := by decide +kernel
theorem dX8_wakes_12 : decode cX8_wakes 12 = .ok (.aload_n 0, 1) := by decide +kernel
theorem dX8_wakes_13 : decode cX8_wakes 13 = .ok (.getfield 12, 3) := by decide +kernel
theorem dX8_wakes_16 : decode cX8_wakes 16 = .ok (.iload_n 1, 1) := by decide +kernel
theorem dX8_wakes_17 : decode cX8_wakes 17 = .ok (.invokevirtual 97, 3) := by decide +kernel
theorem dX8_wakes_20 : decode cX8_wakes 20 = .ok (.invokevirtual 42, 3) := by decide +kernel
theorem dX8_wakes_23 : decode cX8_wakes 23 = .ok (.ireturn, 1) := by decide +kernel
theorem dX8_type_0 : decode cX8_type 0 = .ok (.aload_n 0, 1) := by decide +kernel
theorem dX8_type_1 : decode cX8_type 1 = .ok (.aload_n 0, 1) := by decide +kernel
theorem dX8_type_2 : decode cX8_type 2 = .ok (.getfield 26, 3) := by decide +kernel
theorem dX8_type_5 : decode cX8_type 5 = .ok (.iload_n 1, 1) := by decide +kernel
theorem dX8_type_6 : decode cX8_type 6 = .ok (.invokevirtual 100, 3) := by decide +kernel
theorem dX8_type_9 : decode cX8_type 9 = .ok (.invokevirtual 61, 3) := by decide +kernel
theorem dX8_type_12 : decode cX8_type 12 = .ok (.ireturn, 1) := by decide +kernel
theorem dX8_clear_0 : decode cX8_clear 0 = .ok (.aload_n 0, 1) := by decide +kernel
theorem dX8_clear_1 : decode cX8_clear 1 = .ok (.getfield 26, 3) := by decide +kernel
theorem dX8_clear_4 : decode cX8_clear 4 = .ok (.getfield 103, 3) := by decide +kernel
theorem dX8_clear_7 : decode cX8_clear 7 = .ok (.istore_n 1, 1) := by decide +kernel
theorem dX8_clear_8 : decode cX8_clear 8 = .ok (.aload_n 0, 1) := by decide +kernel
theorem dX8_clear_9 : decode cX8_clear 9 = .ok (.getfield 26, 3) := by decide +kernel
theorem dX8_clear_12 : decode cX8_clear 12 = .ok (.iconst 0, 1) := by decide +kernel
theorem dX8_clear_13 : decode cX8_clear 13 = .ok (.putfield 103, 3) := by decide +kernel
theorem dX8_clear_16 : decode cX8_clear 16 = .ok (.iload_n 1, 1) := by decide +kernel
theorem dX8_clear_17 : decode cX8_clear 17 = .ok (.ireturn, 1) := by decide +kernel
theorem dX8_reads_0 : decode cX8_reads 0 = .ok (.aload_n 0, 1) := by decide +kernel
theorem dX8_reads_1 : decode cX8_reads 1 = .ok (.getfield 26, 3) := by decide +kernel
theorem dX8_reads_4 : decode cX8_reads 4 = .ok (.invokevirtual 106, 3) := by decide +kernel
theorem dX8_reads_7 : decode cX8_reads 7 = .ok (.istore_n 1, 1) := by decide +kernel
theorem dX8_reads_8 : decode cX8_reads 8 = .ok (.iload_n 1, 1) := by decide +kernel
theorem dX8_reads_9 : decode cX8_reads 9 = .ok (.iconst (-1), 1) := by decide +kernel
theorem dX8_reads_10 : decode cX8_reads 10 = .ok (.if_icmp .eq 8, 3) := by decide +kernel
theorem dX8_reads_13 : decode cX8_reads 13 = .ok (.bipush (-10), 2) := by decide +kernel
theorem dX8_reads_15 : decode cX8_reads 15 = .ok (.iload_n 1, 1) := by decide +kernel
theorem dX8_reads_16 : decode cX8_reads 16 = .ok (.isub, 1) := by decide +kernel
theorem dX8_reads_17 : decode cX8_reads 17 = .ok (.ireturn, 1) := by decide +kernel
theorem dX8_reads_18 : decode cX8_reads 18 = .ok (.aload_n 0, 1) := by decide +kernel
theorem dX8_reads_19 : decode cX8_reads 19 = .ok (.getfield 19, 3) := by decide +kernel
theorem dX8_reads_22 : decode cX8_reads 22 = .ok (.aload_n 0, 1) := by decide +kernel
theorem dX8_reads_23 : decode cX8_reads 23 = .ok (.getfield 12, 3) := by decide +kernel
theorem dX8_reads_26 : decode cX8_reads 26 = .ok (.invokevirtual 34, 3) := by decide +kernel
theorem dX8_reads_29 : decode cX8_reads 29 = .ok (.iconst 0, 1) := by decide +kernel
theorem dX8_reads_30 : decode cX8_reads 30 = .ok (.istore_n 2, 1) := by decide +kernel
theorem dX8_reads_31 : decode cX8_reads 31 = .ok (.iload_n 2, 1) := by decide +kernel
theorem dX8_reads_32 : decode cX8_reads 32 = .ok (.aload_n 0, 1) := by decide +kernel
theorem dX8_reads_33 : decode cX8_reads 33 = .ok (.getfield 26, 3) := by decide +kernel
theorem dX8_reads_36 : decode cX8_reads 36 = .ok (.getfield 109, 3) := by decide +kernel
theorem dX8_reads_39 : decode cX8_reads 39 = .ok (.if_icmp .ge 49, 3) := by decide +kernel
theorem dX8_reads_42 : decode cX8_reads 42 = .ok (.aload_n 0, 1) := by decide +kernel
theorem dX8_reads_43 : decode cX8_reads 43 = .ok (.iload_n 2, 1) := by decide +kernel
theorem dX8_reads_44 : decode cX8_reads 44 = .ok (.invokevirtual 112, 3) := by decide +kernel
theorem dX8_reads_47 : decode cX8_reads 47 = .ok (.istore_n 3, 1) := by decide +kernel
theorem dX8_reads_48 : decode cX8_reads 48 = .ok (.iload_n 3, 1) := by decide +kernel
theorem dX8_reads_49 : decode cX8_reads 49 = .ok (.invokestatic 115, 3) := by decide +kernel
theorem dX8_reads_52 : decode cX8_reads 52 = .ok (.ifCond .eq 30, 3) := by decide +kernel
theorem dX8_reads_55 : decode cX8_reads 55 = .ok (.aload_n 0, 1) := by decide +kernel
theorem dX8_reads_56 : decode cX8_reads 56 = .ok (.getfield 19, 3) := by decide +kernel
theorem dX8_reads_59 : decode cX8_reads 59 = .ok (.aload_n 0, 1) := by decide +kernel
theorem dX8_reads_60 : decode cX8_reads 60 = .ok (.getfield 12, 3) := by decide +kernel
theorem dX8_reads_63 : decode cX8_reads 63 = .ok (.invokevirtual 119, 3) := by decide +kernel
theorem dX8_reads_66 : decode cX8_reads 66 = .ok (.aload_n 0, 1) := by decide +kernel
theorem dX8_reads_67 : decode cX8_reads 67 = .ok (.iload_n 3, 1) := by decide +kernel
theorem dX8_reads_68 : decode cX8_reads 68 = .ok (.putfield 122, 3) := by decide +kernel
theorem dX8_reads_71 : decode cX8_reads 71 = .ok (.aload_n 0, 1) := by decide +kernel
theorem dX8_reads_72 : decode cX8_reads 72 = .ok (.iload_n 2, 1) := by decide +kernel
theorem dX8_reads_73 : decode cX8_reads 73 = .ok (.putfield 30, 3) := by decide +kernel
theorem dX8_reads_76 : decode cX8_reads 76 = .ok (.sipush (-1000), 3) := by decide +kernel
theorem dX8_reads_79 : decode cX8_reads 79 = .ok (.iload_n 2, 1) := by decide +kernel
theorem dX8_reads_80 : decode cX8_reads 80 = .ok (.isub, 1) := by decide +kernel
theorem dX8_reads_81 : decode cX8_reads 81 = .ok (.ireturn, 1) := by decide +kernel
theorem dX8_reads_82 : decode cX8_reads 82 = .ok (.iinc 2 1, 3) := by decide +kernel
theorem dX8_reads_85 : decode cX8_reads 85 = .ok (.goto (-54), 3) := by decide +kernel
theorem dX8_reads_88 : decode cX8_reads 88 = .ok (.aload_n 0, 1) := by decide +kernel
theorem dX8_reads_89 : decode cX8_reads 89 = .ok (.getfield 19, 3) := by decide +kernel
theorem dX8_reads_92 : decode cX8_reads 92 = .ok (.invokevirtual 125, 3) := by decide +kernel
theorem dX8_reads_95 : decode cX8_reads 95 = .ok (.aload_n 0, 1) := by decide +kernel
theorem dX8_reads_96 : decode cX8_reads 96 = .ok (.getfield 26, 3) := by decide +kernel
theorem dX8_reads_99 : decode cX8_reads 99 = .ok (.getfield 109, 3) := by decide +kernel
theorem dX8_reads_102 : decode cX8_reads 102 = .ok (.ireturn, 1) := by decide +kernel
theorem dX8_why_0 : decode cX8_why 0 = .ok (.iload_n 1, 1) := by decide +kernel
theorem dX8_why_1 : decode cX8_why 1 = .ok (.lookupswitch 37 #[(0, 27), (1, 32)], 27) := by decide +kernel
theorem dX8_why_28 : decode cX8_why 28 = .ok (.aload_n 0, 1) := by decide +kernel
theorem dX8_why_29 : decode cX8_why 29 = .ok (.getfield 122, 3) := by decide +kernel
theorem dX8_why_32 : decode cX8_why 32 = .ok (.ireturn, 1) := by decide +kernel
theorem dX8_why_33 : decode cX8_why 33 = .ok (.aload_n 0, 1) := by decide +kernel
theorem dX8_why_34 : decode cX8_why 34 = .ok (.getfield 30, 3) := by decide +kernel
theorem dX8_why_37 : decode cX8_why 37 = .ok (.ireturn, 1) := by decide +kernel
theorem dX8_why_38 : decode cX8_why 38 = .ok (.aload_n 0, 1) := by decide +kernel
theorem dX8_why_39 : decode cX8_why 39 = .ok (.dup, 1) := by decide +kernel
theorem dX8_why_40 : decode cX8_why 40 = .ok (.getfield 128, 3) := by decide +kernel
theorem dX8_why_43 : decode cX8_why 43 = .ok (.iconst 1, 1) := by decide +kernel
theorem dX8_why_44 : decode cX8_why 44 = .ok (.iadd, 1) := by decide +kernel
theorem dX8_why_45 : decode cX8_why 45 = .ok (.putfield 128, 3) := by decide +kernel
theorem dX8_why_48 : decode cX8_why 48 = .ok (.bipush (-10), 2) := by decide +kernel
theorem dX8_why_50 : decode cX8_why 50 = .ok (.ireturn, 1) := by decide +kernel
theorem dX8_back_0 : decode cX8_back 0 = .ok (.aload_n 0, 1) := by decide +kernel
theorem dX8_back_1 : decode cX8_back 1 = .ok (.aload_n 0, 1) := by decide +kernel
theorem dX8_back_2 : decode cX8_back 2 = .ok (.getfield 19, 3) := by decide +kernel
theorem dX8_back_5 : decode cX8_back 5 = .ok (.aload_n 0, 1) := by decide +kernel
theorem dX8_back_6 : decode cX8_back 6 = .ok (.getfield 12, 3) := by decide +kernel
theorem dX8_back_9 : decode cX8_back 9 = .ok (.invokevirtual 131, 3) := by decide +kernel
theorem dX8_back_12 : decode cX8_back 12 = .ok (.invokevirtual 61, 3) := by decide +kernel
theorem dX8_back_15 : decode cX8_back 15 = .ok (.ireturn, 1) := by decide +kernel
theorem dX8_told_0 : decode cX8_told 0 = .ok (.iload_n 1, 1) := by decide +kernel
theorem dX8_told_1 : decode cX8_told 1 = .ok (.tableswitch 138 0 10 #[59, 64, 69, 74, 82, 90, 98, 106, 114, 122, 130], 59) := by decide +kernel
theorem dX8_told_60 : decode cX8_told 60 = .ok (.aload_n 0, 1) := by decide +kernel
theorem dX8_told_61 : decode cX8_told 61 = .ok (.getfield 128, 3) := by decide +kernel
theorem dX8_told_64 : decode cX8_told 64 = .ok (.ireturn, 1) := by decide +kernel
theorem dX8_told_65 : decode cX8_told 65 = .ok (.aload_n 0, 1) := by decide +kernel
theorem dX8_told_66 : decode cX8_told 66 = .ok (.getfield 135, 3) := by decide +kernel
theorem dX8_told_69 : decode cX8_told 69 = .ok (.ireturn, 1) := by decide +kernel
theorem dX8_told_70 : decode cX8_told 70 = .ok (.aload_n 0, 1) := by decide +kernel
theorem dX8_told_71 : decode cX8_told 71 = .ok (.getfield 138, 3) := by decide +kernel
theorem dX8_told_74 : decode cX8_told 74 = .ok (.ireturn, 1) := by decide +kernel
theorem dX8_told_75 : decode cX8_told 75 = .ok (.aload_n 0, 1) := by decide +kernel
theorem dX8_told_76 : decode cX8_told 76 = .ok (.getfield 26, 3) := by decide +kernel
theorem dX8_told_79 : decode cX8_told 79 = .ok (.getfield 103, 3) := by decide +kernel
theorem dX8_told_82 : decode cX8_told 82 = .ok (.ireturn, 1) := by decide +kernel
theorem dX8_told_83 : decode cX8_told 83 = .ok (.aload_n 0, 1) := by decide +kernel
theorem dX8_told_84 : decode cX8_told 84 = .ok (.getfield 12, 3) := by decide +kernel
theorem dX8_told_87 : decode cX8_told 87 = .ok (.getfield 141, 3) := by decide +kernel
theorem dX8_told_90 : decode cX8_told 90 = .ok (.ireturn, 1) := by decide +kernel
theorem dX8_told_91 : decode cX8_told 91 = .ok (.aload_n 0, 1) := by decide +kernel
theorem dX8_told_92 : decode cX8_told 92 = .ok (.getfield 12, 3) := by decide +kernel
theorem dX8_told_95 : decode cX8_told 95 = .ok (.getfield 144, 3) := by decide +kernel
theorem dX8_told_98 : decode cX8_told 98 = .ok (.ireturn, 1) := by decide +kernel
theorem dX8_told_99 : decode cX8_told 99 = .ok (.aload_n 0, 1) := by decide +kernel
theorem dX8_told_100 : decode cX8_told 100 = .ok (.getfield 12, 3) := by decide +kernel
theorem dX8_told_103 : decode cX8_told 103 = .ok (.getfield 147, 3) := by decide +kernel
theorem dX8_told_106 : decode cX8_told 106 = .ok (.ireturn, 1) := by decide +kernel
theorem dX8_told_107 : decode cX8_told 107 = .ok (.aload_n 0, 1) := by decide +kernel
theorem dX8_told_108 : decode cX8_told 108 = .ok (.getfield 12, 3) := by decide +kernel
theorem dX8_told_111 : decode cX8_told 111 = .ok (.getfield 150, 3) := by decide +kernel
theorem dX8_told_114 : decode cX8_told 114 = .ok (.ireturn, 1) := by decide +kernel
theorem dX8_told_115 : decode cX8_told 115 = .ok (.aload_n 0, 1) := by decide +kernel
theorem dX8_told_116 : decode cX8_told 116 = .ok (.getfield 12, 3) := by decide +kernel
theorem dX8_told_119 : decode cX8_told 119 = .ok (.getfield 153, 3) := by decide +kernel
theorem dX8_told_122 : decode cX8_told 122 = .ok (.ireturn, 1) := by decide +kernel
theorem dX8_told_123 : decode cX8_told 123 = .ok (.aload_n 0, 1) := by decide +kernel
theorem dX8_told_124 : decode cX8_told 124 = .ok (.getfield 12, 3) := by decide +kernel
theorem dX8_told_127 : decode cX8_told 127 = .ok (.getfield 156, 3) := by decide +kernel
theorem dX8_told_130 : decode cX8_told 130 = .ok (.ireturn, 1) := by decide +kernel
theorem dX8_told_131 : decode cX8_told 131 = .ok (.aload_n 0, 1) := by decide +kernel
theorem dX8_told_132 : decode cX8_told 132 = .ok (.getfield 19, 3) := by decide +kernel
theorem dX8_told_135 : decode cX8_told 135 = .ok (.getfield 159, 3) := by decide +kernel
theorem dX8_told_138 : decode cX8_told 138 = .ok (.ireturn, 1) := by decide +kernel
theorem dX8_told_139 : decode cX8_told 139 = .ok (.aload_n 0, 1) := by decide +kernel
theorem dX8_told_140 : decode cX8_told 140 = .ok (.bipush (-2), 2) := by decide +kernel
theorem dX8_told_142 : decode cX8_told 142 = .ok (.invokevirtual 61, 3) := by decide +kernel
theorem dX8_told_145 : decode cX8_told 145 = .ok (.ireturn, 1) := by decide +kernel
theorem dX8_digest_0 : decode cX8_digest 0 = .ok (.ldc2_w 162, 3) := by decide +kernel
theorem dX8_digest_3 : decode cX8_digest 3 = .ok (.lstore_n 1, 1) := by decide +kernel
theorem dX8_digest_4 : decode cX8_digest 4 = .ok (.iconst 0, 1) := by decide +kernel
theorem dX8_digest_5 : decode cX8_digest 5 = .ok (.istore_n 3, 1) := by decide +kernel
theorem dX8_digest_6 : decode cX8_digest 6 = .ok (.iload_n 3, 1) := by decide +kernel
theorem dX8_digest_7 : decode cX8_digest 7 = .ok (.bipush 10, 2) := by decide +kernel
theorem dX8_digest_9 : decode cX8_digest 9 = .ok (.if_icmp .gt 22, 3) := by decide +kernel
theorem dX8_digest_12 : decode cX8_digest 12 = .ok (.ldc2_w 164, 3) := by decide +kernel
theorem dX8_digest_15 : decode cX8_digest 15 = .ok (.lload_n 1, 1) := by decide +kernel
theorem dX8_digest_16 : decode cX8_digest 16 = .ok (.lmul, 1) := by decide +kernel
theorem dX8_digest_17 : decode cX8_digest 17 = .ok (.aload_n 0, 1) := by decide +kernel
theorem dX8_digest_18 : decode cX8_digest 18 = .ok (.iload_n 3, 1) := by decide +kernel
theorem dX8_digest_19 : decode cX8_digest 19 = .ok (.invokevirtual 166, 3) := by decide +kernel
theorem dX8_digest_22 : decode cX8_digest 22 = .ok (.i2l, 1) := by decide +kernel
theorem dX8_digest_23 : decode cX8_digest 23 = .ok (.ladd, 1) := by decide +kernel
theorem dX8_digest_24 : decode cX8_digest 24 = .ok (.lstore_n 1, 1) := by decide +kernel
theorem dX8_digest_25 : decode cX8_digest 25 = .ok (.iinc 3 1, 3) := by decide +kernel
theorem dX8_digest_28 : decode cX8_digest 28 = .ok (.goto (-22), 3) := by decide +kernel
theorem dX8_digest_31 : decode cX8_digest 31 = .ok (.ldc2_w 164, 3) := by decide +kernel
theorem dX8_digest_34 : decode cX8_digest 34 = .ok (.lload_n 1, 1) := by decide +kernel
theorem dX8_digest_35 : decode cX8_digest 35 = .ok (.lmul, 1) := by decide +kernel
theorem dX8_digest_36 : decode cX8_digest 36 = .ok (.aload_n 0, 1) := by decide +kernel
theorem dX8_digest_37 : decode cX8_digest 37 = .ok (.iconst 0, 1) := by decide +kernel
theorem dX8_digest_38 : decode cX8_digest 38 = .ok (.invokevirtual 169, 3) := by decide +kernel
theorem dX8_digest_41 : decode cX8_digest 41 = .ok (.i2l, 1) := by decide +kernel
theorem dX8_digest_42 : decode cX8_digest 42 = .ok (.ladd, 1) := by decide +kernel
theorem dX8_digest_43 : decode cX8_digest 43 = .ok (.lstore_n 1, 1) := by decide +kernel
theorem dX8_digest_44 : decode cX8_digest 44 = .ok (.ldc2_w 164, 3) := by decide +kernel
theorem dX8_digest_47 : decode cX8_digest 47 = .ok (.lload_n 1, 1) := by decide +kernel
theorem dX8_digest_48 : decode cX8_digest 48 = .ok (.lmul, 1) := by decide +kernel
theorem dX8_digest_49 : decode cX8_digest 49 = .ok (.aload_n 0, 1) := by decide +kernel
theorem dX8_digest_50 : decode cX8_digest 50 = .ok (.iconst 1, 1) := by decide +kernel
theorem dX8_digest_51 : decode cX8_digest 51 = .ok (.invokevirtual 169, 3) := by decide +kernel
theorem dX8_digest_54 : decode cX8_digest 54 = .ok (.i2l, 1) := by decide +kernel
theorem dX8_digest_55 : decode cX8_digest 55 = .ok (.ladd, 1) := by decide +kernel
theorem dX8_digest_56 : decode cX8_digest 56 = .ok (.lstore_n 1, 1) := by decide +kernel
theorem dX8_digest_57 : decode cX8_digest 57 = .ok (.iconst 0, 1) := by decide +kernel
theorem dX8_digest_58 : decode cX8_digest 58 = .ok (.istore_n 3, 1) := by decide +kernel
theorem dX8_digest_59 : decode cX8_digest 59 = .ok (.iload_n 3, 1) := by decide +kernel
theorem dX8_digest_60 : decode cX8_digest 60 = .ok (.aload_n 0, 1) := by decide +kernel
theorem dX8_digest_61 : decode cX8_digest 61 = .ok (.getfield 12, 3) := by decide +kernel
theorem dX8_digest_64 : decode cX8_digest 64 = .ok (.getfield 141, 3) := by decide +kernel
theorem dX8_digest_67 : decode cX8_digest 67 = .ok (.if_icmp .ge 16, 3) := by decide +kernel
theorem dX8_digest_70 : decode cX8_digest 70 = .ok (.aload_n 0, 1) := by decide +kernel
theorem dX8_digest_71 : decode cX8_digest 71 = .ok (.lload_n 1, 1) := by decide +kernel
theorem dX8_digest_72 : decode cX8_digest 72 = .ok (.iload_n 3, 1) := by decide +kernel
theorem dX8_digest_73 : decode cX8_digest 73 = .ok (.invokevirtual 172, 3) := by decide +kernel
theorem dX8_digest_76 : decode cX8_digest 76 = .ok (.lstore_n 1, 1) := by decide +kernel
theorem dX8_digest_77 : decode cX8_digest 77 = .ok (.iinc 3 1, 3) := by decide +kernel
theorem dX8_digest_80 : decode cX8_digest 80 = .ok (.goto (-21), 3) := by decide +kernel
theorem dX8_digest_83 : decode cX8_digest 83 = .ok (.ldc2_w 164, 3) := by decide +kernel
theorem dX8_digest_86 : decode cX8_digest 86 = .ok (.lload_n 1, 1) := by decide +kernel
theorem dX8_digest_87 : decode cX8_digest 87 = .ok (.lmul, 1) := by decide +kernel
theorem dX8_digest_88 : decode cX8_digest 88 = .ok (.aload_n 0, 1) := by decide +kernel
theorem dX8_digest_89 : decode cX8_digest 89 = .ok (.invokevirtual 176, 3) := by decide +kernel
theorem dX8_digest_92 : decode cX8_digest 92 = .ok (.i2l, 1) := by decide +kernel
theorem dX8_digest_93 : decode cX8_digest 93 = .ok (.ladd, 1) := by decide +kernel
theorem dX8_digest_94 : decode cX8_digest 94 = .ok (.lstore_n 1, 1) := by decide +kernel
theorem dX8_digest_95 : decode cX8_digest 95 = .ok (.iconst 0, 1) := by decide +kernel
theorem dX8_digest_96 : decode cX8_digest 96 = .ok (.istore_n 3, 1) := by decide +kernel
theorem dX8_digest_97 : decode cX8_digest 97 = .ok (.iload_n 3, 1) := by decide +kernel
theorem dX8_digest_98 : decode cX8_digest 98 = .ok (.iconst 3, 1) := by decide +kernel
theorem dX8_digest_99 : decode cX8_digest 99 = .ok (.if_icmp .gt 22, 3) := by decide +kernel
theorem dX8_digest_102 : decode cX8_digest 102 = .ok (.ldc2_w 164, 3) := by decide +kernel
theorem dX8_digest_105 : decode cX8_digest 105 = .ok (.lload_n 1, 1) := by decide +kernel
theorem dX8_digest_106 : decode cX8_digest 106 = .ok (.lmul, 1) := by decide +kernel
theorem dX8_digest_107 : decode cX8_digest 107 = .ok (.aload_n 0, 1) := by decide +kernel
theorem dX8_digest_108 : decode cX8_digest 108 = .ok (.iload_n 3, 1) := by decide +kernel
theorem dX8_digest_109 : decode cX8_digest 109 = .ok (.invokevirtual 178, 3) := by decide +kernel
theorem dX8_digest_112 : decode cX8_digest 112 = .ok (.i2l, 1) := by decide +kernel
theorem dX8_digest_113 : decode cX8_digest 113 = .ok (.ladd, 1) := by decide +kernel
theorem dX8_digest_114 : decode cX8_digest 114 = .ok (.lstore_n 1, 1) := by decide +kernel
theorem dX8_digest_115 : decode cX8_digest 115 = .ok (.iinc 3 1, 3) := by decide +kernel
theorem dX8_digest_118 : decode cX8_digest 118 = .ok (.goto (-21), 3) := by decide +kernel
theorem dX8_digest_121 : decode cX8_digest 121 = .ok (.lload_n 1, 1) := by decide +kernel
theorem dX8_digest_122 : decode cX8_digest 122 = .ok (.lreturn, 1) := by decide +kernel
theorem dX8_digestOfHost_0 : decode cX8_digestOfHost 0 = .ok (.lload_n 1, 1) := by decide +kernel
theorem dX8_digestOfHost_1 : decode cX8_digestOfHost 1 = .ok (.lstore 4, 2) := by decide +kernel
theorem dX8_digestOfHost_3 : decode cX8_digestOfHost 3 = .ok (.iconst 0, 1) := by decide +kernel
theorem dX8_digestOfHost_4 : decode cX8_digestOfHost 4 = .ok (.istore 6, 2) := by decide +kernel
theorem dX8_digestOfHost_6 : decode cX8_digestOfHost 6 = .ok (.iload 6, 2) := by decide +kernel
theorem dX8_digestOfHost_8 : decode cX8_digestOfHost 8 = .ok (.iconst 5, 1) := by decide +kernel
theorem dX8_digestOfHost_9 : decode cX8_digestOfHost 9 = .ok (.if_icmp .gt 26, 3) := by decide +kernel
theorem dX8_digestOfHost_12 : decode cX8_digestOfHost 12 = .ok (.ldc2_w 164, 3) := by decide +kernel
theorem dX8_digestOfHost_15 : decode cX8_digestOfHost 15 = .ok (.lload 4, 2) := by decide +kernel
theorem dX8_digestOfHost_17 : decode cX8_digestOfHost 17 = .ok (.lmul, 1) := by decide +kernel
theorem dX8_digestOfHost_18 : decode cX8_digestOfHost 18 = .ok (.aload_n 0, 1) := by decide +kernel
theorem dX8_digestOfHost_19 : decode cX8_digestOfHost 19 = .ok (.iload_n 3, 1) := by decide +kernel
theorem dX8_digestOfHost_20 : decode cX8_digestOfHost 20 = .ok (.iload 6, 2) := by decide +kernel
theorem dX8_digestOfHost_22 : decode cX8_digestOfHost 22 = .ok (.invokevirtual 181, 3) := by decide +kernel
theorem dX8_digestOfHost_25 : decode cX8_digestOfHost 25 = .ok (.i2l, 1) := by decide +kernel
theorem dX8_digestOfHost_26 : decode cX8_digestOfHost 26 = .ok (.ladd, 1) := by decide +kernel
theorem dX8_digestOfHost_27 : decode cX8_digestOfHost 27 = .ok (.lstore 4, 2) := by decide +kernel
theorem dX8_digestOfHost_29 : decode cX8_digestOfHost 29 = .ok (.iinc 6 1, 3) := by decide +kernel
theorem dX8_digestOfHost_32 : decode cX8_digestOfHost 32 = .ok (.goto (-26), 3) := by decide +kernel
theorem dX8_digestOfHost_35 : decode cX8_digestOfHost 35 = .ok (.aload_n 0, 1) := by decide +kernel
theorem dX8_digestOfHost_36 : decode cX8_digestOfHost 36 = .ok (.iload_n 3, 1) := by decide +kernel
theorem dX8_digestOfHost_37 : decode cX8_digestOfHost 37 = .ok (.iconst 0, 1) := by decide +kernel
theorem dX8_digestOfHost_38 : decode cX8_digestOfHost 38 = .ok (.invokevirtual 181, 3) := by decide +kernel
theorem dX8_digestOfHost_41 : decode cX8_digestOfHost 41 = .ok (.istore 6, 2) := by decide +kernel
theorem dX8_digestOfHost_43 : decode cX8_digestOfHost 43 = .ok (.iconst 0, 1) := by decide +kernel
theorem dX8_digestOfHost_44 : decode cX8_digestOfHost 44 = .ok (.istore 7, 2) := by decide +kernel
theorem dX8_digestOfHost_46 : decode cX8_digestOfHost 46 = .ok (.iload 7, 2) := by decide +kernel
theorem dX8_digestOfHost_48 : decode cX8_digestOfHost 48 = .ok (.iload 6, 2) := by decide +kernel
theorem dX8_digestOfHost_50 : decode cX8_digestOfHost 50 = .ok (.if_icmp .ge 44, 3) := by decide +kernel
theorem dX8_digestOfHost_53 : decode cX8_digestOfHost 53 = .ok (.iconst 0, 1) := by decide +kernel
theorem dX8_digestOfHost_54 : decode cX8_digestOfHost 54 = .ok (.istore 8, 2) := by decide +kernel
theorem dX8_digestOfHost_56 : decode cX8_digestOfHost 56 = .ok (.iload 8, 2) := by decide +kernel
theorem dX8_digestOfHost_58 : decode cX8_digestOfHost 58 = .ok (.bipush 7, 2) := by decide +kernel
theorem dX8_digestOfHost_60 : decode cX8_digestOfHost 60 = .ok (.if_icmp .gt 28, 3) := by decide +kernel
theorem dX8_digestOfHost_63 : decode cX8_digestOfHost 63 = .ok (.ldc2_w 164, 3) := by decide +kernel
theorem dX8_digestOfHost_66 : decode cX8_digestOfHost 66 = .ok (.lload 4, 2) := by decide +kernel
theorem dX8_digestOfHost_68 : decode cX8_digestOfHost 68 = .ok (.lmul, 1) := by decide +kernel
theorem dX8_digestOfHost_69 : decode cX8_digestOfHost 69 = .ok (.aload_n 0, 1) := by decide +kernel
theorem dX8_digestOfHost_70 : decode cX8_digestOfHost 70 = .ok (.iload_n 3, 1) := by decide +kernel
theorem dX8_digestOfHost_71 : decode cX8_digestOfHost 71 = .ok (.iload 7, 2) := by decide +kernel
theorem dX8_digestOfHost_73 : decode cX8_digestOfHost 73 = .ok (.iload 8, 2) := by decide +kernel
theorem dX8_digestOfHost_75 : decode cX8_digestOfHost 75 = .ok (.invokevirtual 184, 3) := by decide +kernel
theorem dX8_digestOfHost_78 : decode cX8_digestOfHost 78 = .ok (.i2l, 1) := by decide +kernel
theorem dX8_digestOfHost_79 : decode cX8_digestOfHost 79 = .ok (.ladd, 1) := by decide +kernel
theorem dX8_digestOfHost_80 : decode cX8_digestOfHost 80 = .ok (.lstore 4, 2) := by decide +kernel
theorem dX8_digestOfHost_82 : decode cX8_digestOfHost 82 = .ok (.iinc 8 1, 3) := by decide +kernel
theorem dX8_digestOfHost_85 : decode cX8_digestOfHost 85 = .ok (.goto (-29), 3) := by decide +kernel
theorem dX8_digestOfHost_88 : decode cX8_digestOfHost 88 = .ok (.iinc 7 1, 3) := by decide +kernel
theorem dX8_digestOfHost_91 : decode cX8_digestOfHost 91 = .ok (.goto (-45), 3) := by decide +kernel
theorem dX8_digestOfHost_94 : decode cX8_digestOfHost 94 = .ok (.aload_n 0, 1) := by decide +kernel
theorem dX8_digestOfHost_95 : decode cX8_digestOfHost 95 = .ok (.iload_n 3, 1) := by decide +kernel
theorem dX8_digestOfHost_96 : decode cX8_digestOfHost 96 = .ok (.iconst 3, 1) := by decide +kernel
theorem dX8_digestOfHost_97 : decode cX8_digestOfHost 97 = .ok (.invokevirtual 181, 3) := by decide +kernel
theorem dX8_digestOfHost_100 : decode cX8_digestOfHost 100 = .ok (.istore 7, 2) := by decide +kernel
theorem dX8_digestOfHost_102 : decode cX8_digestOfHost 102 = .ok (.iconst 0, 1) := by decide +kernel
theorem dX8_digestOfHost_103 : decode cX8_digestOfHost 103 = .ok (.istore 8, 2) := by decide +kernel
theorem dX8_digestOfHost_105 : decode cX8_digestOfHost 105 = .ok (.iload 8, 2) := by decide +kernel
theorem dX8_digestOfHost_107 : decode cX8_digestOfHost 107 = .ok (.iload 7, 2) := by decide +kernel
theorem dX8_digestOfHost_109 : decode cX8_digestOfHost 109 = .ok (.if_icmp .ge 43, 3) := by decide +kernel
theorem dX8_digestOfHost_112 : decode cX8_digestOfHost 112 = .ok (.iconst 0, 1) := by decide +kernel
theorem dX8_digestOfHost_113 : decode cX8_digestOfHost 113 = .ok (.istore 9, 2) := by decide +kernel
theorem dX8_digestOfHost_115 : decode cX8_digestOfHost 115 = .ok (.iload 9, 2) := by decide +kernel
theorem dX8_digestOfHost_117 : decode cX8_digestOfHost 117 = .ok (.iconst 4, 1) := by decide +kernel
theorem dX8_digestOfHost_118 : decode cX8_digestOfHost 118 = .ok (.if_icmp .gt 28, 3) := by decide +kernel
theorem dX8_digestOfHost_121 : decode cX8_digestOfHost 121 = .ok (.ldc2_w 164, 3) := by decide +kernel
theorem dX8_digestOfHost_124 : decode cX8_digestOfHost 124 = .ok (.lload 4, 2) := by decide +kernel
theorem dX8_digestOfHost_126 : decode cX8_digestOfHost 126 = .ok (.lmul, 1) := by decide +kernel
theorem dX8_digestOfHost_127 : decode cX8_digestOfHost 127 = .ok (.aload_n 0, 1) := by decide +kernel
theorem dX8_digestOfHost_128 : decode cX8_digestOfHost 128 = .ok (.iload_n 3, 1) := by decide +kernel
theorem dX8_digestOfHost_129 : decode cX8_digestOfHost 129 = .ok (.iload 8, 2) := by decide +kernel
theorem dX8_digestOfHost_131 : decode cX8_digestOfHost 131 = .ok (.iload 9, 2) := by decide +kernel
theorem dX8_digestOfHost_133 : decode cX8_digestOfHost 133 = .ok (.invokevirtual 187, 3) := by decide +kernel
theorem dX8_digestOfHost_136 : decode cX8_digestOfHost 136 = .ok (.i2l, 1) := by decide +kernel
theorem dX8_digestOfHost_137 : decode cX8_digestOfHost 137 = .ok (.ladd, 1) := by decide +kernel
theorem dX8_digestOfHost_138 : decode cX8_digestOfHost 138 = .ok (.lstore 4, 2) := by decide +kernel
theorem dX8_digestOfHost_140 : decode cX8_digestOfHost 140 = .ok (.iinc 9 1, 3) := by decide +kernel
theorem dX8_digestOfHost_143 : decode cX8_digestOfHost 143 = .ok (.goto (-28), 3) := by decide +kernel
theorem dX8_digestOfHost_146 : decode cX8_digestOfHost 146 = .ok (.iinc 8 1, 3) := by decide +kernel
theorem dX8_digestOfHost_149 : decode cX8_digestOfHost 149 = .ok (.goto (-44), 3) := by decide +kernel
theorem dX8_digestOfHost_152 : decode cX8_digestOfHost 152 = .ok (.lload 4, 2) := by decide +kernel
theorem dX8_digestOfHost_154 : decode cX8_digestOfHost 154 = .ok (.lreturn, 1) := by decide +kernel
theorem dX8_isError_0 : decode cX8_isError 0 = .ok (.iload_n 0, 1) := by decide +kernel
theorem dX8_isError_1 : decode cX8_isError 1 = .ok (.bipush (-2), 2) := by decide +kernel
theorem dX8_isError_3 : decode cX8_isError 3 = .ok (.if_icmp .eq 15, 3) := by decide +kernel
theorem dX8_isError_6 : decode cX8_isError 6 = .ok (.iload_n 0, 1) := by decide +kernel
theorem dX8_isError_7 : decode cX8_isError 7 = .ok (.bipush (-3), 2) := by decide +kernel
theorem dX8_isError_9 : decode cX8_isError 9 = .ok (.if_icmp .eq 9, 3) := by decide +kernel
theorem dX8_isError_12 : decode cX8_isError 12 = .ok (.iload_n 0, 1) := by decide +kernel
theorem dX8_isError_13 : decode cX8_isError 13 = .ok (.bipush (-4), 2) := by decide +kernel
theorem dX8_isError_15 : decode cX8_isError 15 = .ok (.if_icmp .ne 7, 3) := by decide +kernel
theorem dX8_isError_18 : decode cX8_isError 18 = .ok (.iconst 1, 1) := by decide +kernel
theorem dX8_isError_19 : decode cX8_isError 19 = .ok (.goto 4, 3) := by decide +kernel
theorem dX8_isError_22 : decode cX8_isError 22 = .ok (.iconst 0, 1) := by decide +kernel
theorem dX8_isError_23 : decode cX8_isError 23 = .ok (.ireturn, 1) := by decide +kernel
theorem dX8_counted_0 : decode cX8_counted 0 = .ok (.iload_n 1, 1) := by decide +kernel
theorem dX8_counted_1 : decode cX8_counted 1 = .ok (.bipush (-2), 2) := by decide +kernel
theorem dX8_counted_3 : decode cX8_counted 3 = .ok (.if_icmp .ne 16, 3) := by decide +kernel
theorem dX8_counted_6 : decode cX8_counted 6 = .ok (.aload_n 0, 1) := by decide +kernel
theorem dX8_counted_7 : decode cX8_counted 7 = .ok (.dup, 1) := by decide +kernel
theorem dX8_counted_8 : decode cX8_counted 8 = .ok (.getfield 128, 3) := by decide +kernel
theorem dX8_counted_11 : decode cX8_counted 11 = .ok (.iconst 1, 1) := by decide +kernel
theorem dX8_counted_12 : decode cX8_counted 12 = .ok (.iadd, 1) := by decide +kernel
theorem dX8_counted_13 : decode cX8_counted 13 = .ok (.putfield 128, 3) := by decide +kernel
theorem dX8_counted_16 : decode cX8_counted 16 = .ok (.goto 38, 3) := by decide +kernel
theorem dX8_counted_19 : decode cX8_counted 19 = .ok (.iload_n 1, 1) := by decide +kernel
theorem dX8_counted_20 : decode cX8_counted 20 = .ok (.bipush (-3), 2) := by decide +kernel
theorem dX8_counted_22 : decode cX8_counted 22 = .ok (.if_icmp .ne 16, 3) := by decide +kernel
theorem dX8_counted_25 : decode cX8_counted 25 = .ok (.aload_n 0, 1) := by decide +kernel
theorem dX8_counted_26 : decode cX8_counted 26 = .ok (.dup, 1) := by decide +kernel
theorem dX8_counted_27 : decode cX8_counted 27 = .ok (.getfield 135, 3) := by decide +kernel
theorem dX8_counted_30 : decode cX8_counted 30 = .ok (.iconst 1, 1) := by decide +kernel
theorem dX8_counted_31 : decode cX8_counted 31 = .ok (.iadd, 1) := by decide +kernel
theorem dX8_counted_32 : decode cX8_counted 32 = .ok (.putfield 135, 3) := by decide +kernel
theorem dX8_counted_35 : decode cX8_counted 35 = .ok (.goto 19, 3) := by decide +kernel
theorem dX8_counted_38 : decode cX8_counted 38 = .ok (.iload_n 1, 1) := by decide +kernel
theorem dX8_counted_39 : decode cX8_counted 39 = .ok (.bipush (-4), 2) := by decide +kernel
theorem dX8_counted_41 : decode cX8_counted 41 = .ok (.if_icmp .ne 13, 3) := by decide +kernel
theorem dX8_counted_44 : decode cX8_counted 44 = .ok (.aload_n 0, 1) := by decide +kernel
theorem dX8_counted_45 : decode cX8_counted 45 = .ok (.dup, 1) := by decide +kernel
theorem dX8_counted_46 : decode cX8_counted 46 = .ok (.getfield 138, 3) := by decide +kernel
theorem dX8_counted_49 : decode cX8_counted 49 = .ok (.iconst 1, 1) := by decide +kernel
theorem dX8_counted_50 : decode cX8_counted 50 = .ok (.iadd, 1) := by decide +kernel
theorem dX8_counted_51 : decode cX8_counted 51 = .ok (.putfield 138, 3) := by decide +kernel
theorem dX8_counted_54 : decode cX8_counted 54 = .ok (.iload_n 1, 1) := by decide +kernel
theorem dX8_counted_55 : decode cX8_counted 55 = .ok (.ireturn, 1) := by decide +kernel
theorem dX8_stepped_0 : decode cX8_stepped 0 = .ok (.iload_n 1, 1) := by decide +kernel
theorem dX8_stepped_1 : decode cX8_stepped 1 = .ok (.invokestatic 115, 3) := by decide +kernel
theorem dX8_stepped_4 : decode cX8_stepped 4 = .ok (.ifCond .ne 10, 3) := by decide +kernel
theorem dX8_stepped_7 : decode cX8_stepped 7 = .ok (.aload_n 0, 1) := by decide +kernel
theorem dX8_stepped_8 : decode cX8_stepped 8 = .ok (.getfield 19, 3) := by decide +kernel
theorem dX8_stepped_11 : decode cX8_stepped 11 = .ok (.invokevirtual 125, 3) := by decide +kernel
theorem dX8_stepped_14 : decode cX8_stepped 14 = .ok (.aload_n 0, 1) := by decide +kernel
theorem dX8_stepped_15 : decode cX8_stepped 15 = .ok (.iload_n 1, 1) := by decide +kernel
theorem dX8_stepped_16 : decode cX8_stepped 16 = .ok (.invokevirtual 61, 3) := by decide +kernel
theorem dX8_stepped_19 : decode cX8_stepped 19 = .ok (.ireturn, 1) := by decide +kernel
theorem dX8_perform_0 : decode cX8_perform 0 = .ok (.aload_n 0, 1) := by decide +kernel
theorem dX8_perform_1 : decode cX8_perform 1 = .ok (.getfield 26, 3) := by decide +kernel
theorem dX8_perform_4 : decode cX8_perform 4 = .ok (.iload_n 1, 1) := by decide +kernel
theorem dX8_perform_5 : decode cX8_perform 5 = .ok (.iconst 0, 1) := by decide +kernel
theorem dX8_perform_6 : decode cX8_perform 6 = .ok (.invokevirtual 190, 3) := by decide +kernel
theorem dX8_perform_9 : decode cX8_perform 9 = .ok (.istore_n 2, 1) := by decide +kernel
theorem dX8_perform_10 : decode cX8_perform 10 = .ok (.aload_n 0, 1) := by decide +kernel
theorem dX8_perform_11 : decode cX8_perform 11 = .ok (.getfield 26, 3) := by decide +kernel
theorem dX8_perform_14 : decode cX8_perform 14 = .ok (.iload_n 1, 1) := by decide +kernel
theorem dX8_perform_15 : decode cX8_perform 15 = .ok (.iconst 1, 1) := by decide +kernel
theorem dX8_perform_16 : decode cX8_perform 16 = .ok (.invokevirtual 190, 3) := by decide +kernel
theorem dX8_perform_19 : decode cX8_perform 19 = .ok (.istore_n 3, 1) := by decide +kernel
theorem dX8_perform_20 : decode cX8_perform 20 = .ok (.aload_n 0, 1) := by decide +kernel
theorem dX8_perform_21 : decode cX8_perform 21 = .ok (.getfield 26, 3) := by decide +kernel
theorem dX8_perform_24 : decode cX8_perform 24 = .ok (.iload_n 1, 1) := by decide +kernel
theorem dX8_perform_25 : decode cX8_perform 25 = .ok (.iconst 2, 1) := by decide +kernel
theorem dX8_perform_26 : decode cX8_perform 26 = .ok (.invokevirtual 190, 3) := by decide +kernel
theorem dX8_perform_29 : decode cX8_perform 29 = .ok (.istore 4, 2) := by decide +kernel
theorem dX8_perform_31 : decode cX8_perform 31 = .ok (.aload_n 0, 1) := by decide +kernel
theorem dX8_perform_32 : decode cX8_perform 32 = .ok (.getfield 26, 3) := by decide +kernel
theorem dX8_perform_35 : decode cX8_perform 35 = .ok (.iload_n 1, 1) := by decide +kernel
theorem dX8_perform_36 : decode cX8_perform 36 = .ok (.iconst 3, 1) := by decide +kernel
theorem dX8_perform_37 : decode cX8_perform 37 = .ok (.invokevirtual 190, 3) := by decide +kernel
theorem dX8_perform_40 : decode cX8_perform 40 = .ok (.istore 5, 2) := by decide +kernel
theorem dX8_perform_42 : decode cX8_perform 42 = .ok (.aload_n 0, 1) := by decide +kernel
theorem dX8_perform_43 : decode cX8_perform 43 = .ok (.getfield 26, 3) := by decide +kernel
theorem dX8_perform_46 : decode cX8_perform 46 = .ok (.iload_n 1, 1) := by decide +kernel
theorem dX8_perform_47 : decode cX8_perform 47 = .ok (.iconst 4, 1) := by decide +kernel
theorem dX8_perform_48 : decode cX8_perform 48 = .ok (.invokevirtual 190, 3) := by decide +kernel
theorem dX8_perform_51 : decode cX8_perform 51 = .ok (.istore 6, 2) := by decide +kernel
theorem dX8_perform_53 : decode cX8_perform 53 = .ok (.aload_n 0, 1) := by decide +kernel
theorem dX8_perform_54 : decode cX8_perform 54 = .ok (.getfield 26, 3) := by decide +kernel
theorem dX8_perform_57 : decode cX8_perform 57 = .ok (.iload_n 1, 1) := by decide +kernel
theorem dX8_perform_58 : decode cX8_perform 58 = .ok (.invokevirtual 193, 3) := by decide +kernel
theorem dX8_perform_61 : decode cX8_perform 61 = .ok (.tableswitch 209 97 122 #[187, 209, 155, 209, 209, 209, 199, 119, 209, 209, 209, 209, 209, 209, 209, 209, 209, 209, 171, 127, 209, 209, 136, 209, 209, 145], 119) := by decide +kernel
theorem dX8_perform_180 : decode cX8_perform 180 = .ok (.aload_n 0, 1) := by decide +kernel
theorem dX8_perform_181 : decode cX8_perform 181 = .ok (.getfield 12, 3) := by decide +kernel
theorem dX8_perform_184 : decode cX8_perform 184 = .ok (.invokevirtual 38, 3) := by decide +kernel
theorem dX8_perform_187 : decode cX8_perform 187 = .ok (.ireturn, 1) := by decide +kernel
theorem dX8_perform_188 : decode cX8_perform 188 = .ok (.aload_n 0, 1) := by decide +kernel
theorem dX8_perform_189 : decode cX8_perform 189 = .ok (.getfield 12, 3) := by decide +kernel
theorem dX8_perform_192 : decode cX8_perform 192 = .ok (.iload_n 2, 1) := by decide +kernel
theorem dX8_perform_193 : decode cX8_perform 193 = .ok (.invokevirtual 67, 3) := by decide +kernel
theorem dX8_perform_196 : decode cX8_perform 196 = .ok (.ireturn, 1) := by decide +kernel
theorem dX8_perform_197 : decode cX8_perform 197 = .ok (.aload_n 0, 1) := by decide +kernel
theorem dX8_perform_198 : decode cX8_perform 198 = .ok (.getfield 12, 3) := by decide +kernel
theorem dX8_perform_201 : decode cX8_perform 201 = .ok (.iload_n 2, 1) := by decide +kernel
theorem dX8_perform_202 : decode cX8_perform 202 = .ok (.invokevirtual 97, 3) := by decide +kernel
theorem dX8_perform_205 : decode cX8_perform 205 = .ok (.ireturn, 1) := by decide +kernel
theorem dX8_perform_206 : decode cX8_perform 206 = .ok (.aload_n 0, 1) := by decide +kernel
theorem dX8_perform_207 : decode cX8_perform 207 = .ok (.getfield 12, 3) := by decide +kernel
theorem dX8_perform_210 : decode cX8_perform 210 = .ok (.iload_n 2, 1) := by decide +kernel
theorem dX8_perform_211 : decode cX8_perform 211 = .ok (.iload_n 3, 1) := by decide +kernel
theorem dX8_perform_212 : decode cX8_perform 212 = .ok (.invokevirtual 94, 3) := by decide +kernel
theorem dX8_perform_215 : decode cX8_perform 215 = .ok (.ireturn, 1) := by decide +kernel
theorem dX8_perform_216 : decode cX8_perform 216 = .ok (.aload_n 0, 1) := by decide +kernel
theorem dX8_perform_217 : decode cX8_perform 217 = .ok (.getfield 12, 3) := by decide +kernel
theorem dX8_perform_220 : decode cX8_perform 220 = .ok (.iload_n 2, 1) := by decide +kernel
theorem dX8_perform_221 : decode cX8_perform 221 = .ok (.iload_n 3, 1) := by decide +kernel
theorem dX8_perform_222 : decode cX8_perform 222 = .ok (.iload 4, 2) := by decide +kernel
theorem dX8_perform_224 : decode cX8_perform 224 = .ok (.iload 5, 2) := by decide +kernel
theorem dX8_perform_226 : decode cX8_perform 226 = .ok (.iload 6, 2) := by decide +kernel
theorem dX8_perform_228 : decode cX8_perform 228 = .ok (.invokevirtual 46, 3) := by decide +kernel
theorem dX8_perform_231 : decode cX8_perform 231 = .ok (.ireturn, 1) := by decide +kernel
theorem dX8_perform_232 : decode cX8_perform 232 = .ok (.aload_n 0, 1) := by decide +kernel
theorem dX8_perform_233 : decode cX8_perform 233 = .ok (.getfield 12, 3) := by decide +kernel
theorem dX8_perform_236 : decode cX8_perform 236 = .ok (.iload_n 2, 1) := by decide +kernel
theorem dX8_perform_237 : decode cX8_perform 237 = .ok (.iload_n 3, 1) := by decide +kernel
theorem dX8_perform_238 : decode cX8_perform 238 = .ok (.iload 4, 2) := by decide +kernel
theorem dX8_perform_240 : decode cX8_perform 240 = .ok (.iload 5, 2) := by decide +kernel
theorem dX8_perform_242 : decode cX8_perform 242 = .ok (.iload 6, 2) := by decide +kernel
theorem dX8_perform_244 : decode cX8_perform 244 = .ok (.invokevirtual 50, 3) := by decide +kernel
theorem dX8_perform_247 : decode cX8_perform 247 = .ok (.ireturn, 1) := by decide +kernel
theorem dX8_perform_248 : decode cX8_perform 248 = .ok (.aload_n 0, 1) := by decide +kernel
theorem dX8_perform_249 : decode cX8_perform 249 = .ok (.getfield 12, 3) := by decide +kernel
theorem dX8_perform_252 : decode cX8_perform 252 = .ok (.iload_n 2, 1) := by decide +kernel
theorem dX8_perform_253 : decode cX8_perform 253 = .ok (.iload_n 3, 1) := by decide +kernel
theorem dX8_perform_254 : decode cX8_perform 254 = .ok (.iload 4, 2) := by decide +kernel
theorem dX8_perform_256 : decode cX8_perform 256 = .ok (.invokevirtual 78, 3) := by decide +kernel
theorem dX8_perform_259 : decode cX8_perform 259 = .ok (.ireturn, 1) := by decide +kernel
theorem dX8_perform_260 : decode cX8_perform 260 = .ok (.aload_n 0, 1) := by decide +kernel
theorem dX8_perform_261 : decode cX8_perform 261 = .ok (.getfield 12, 3) := by decide +kernel
theorem dX8_perform_264 : decode cX8_perform 264 = .ok (.iload_n 2, 1) := by decide +kernel
theorem dX8_perform_265 : decode cX8_perform 265 = .ok (.iload_n 3, 1) := by decide +kernel
theorem dX8_perform_266 : decode cX8_perform 266 = .ok (.invokevirtual 53, 3) := by decide +kernel
theorem dX8_perform_269 : decode cX8_perform 269 = .ok (.ireturn, 1) := by decide +kernel
theorem dX8_perform_270 : decode cX8_perform 270 = .ok (.bipush (-2), 2) := by decide +kernel
theorem dX8_perform_272 : decode cX8_perform 272 = .ok (.ireturn, 1) := by decide +kernel
theorem dX8_bitsOf_0 : decode cX8_bitsOf 0 = .ok (.fload_n 0, 1) := by decide +kernel
theorem dX8_bitsOf_1 : decode cX8_bitsOf 1 = .ok (.f2d, 1) := by decide +kernel
theorem dX8_bitsOf_2 : decode cX8_bitsOf 2 = .ok (.dstore_n 1, 1) := by decide +kernel
theorem dX8_bitsOf_3 : decode cX8_bitsOf 3 = .ok (.bipush 127, 2) := by decide +kernel
theorem dX8_bitsOf_5 : decode cX8_bitsOf 5 = .ok (.istore_n 3, 1) := by decide +kernel
theorem dX8_bitsOf_6 : decode cX8_bitsOf 6 = .ok (.dload_n 1, 1) := by decide +kernel
theorem dX8_bitsOf_7 : decode cX8_bitsOf 7 = .ok (.ldc2_w 196, 3) := by decide +kernel
theorem dX8_bitsOf_10 : decode cX8_bitsOf 10 = .ok (.dcmp .l, 1) := by decide +kernel
theorem dX8_bitsOf_11 : decode cX8_bitsOf 11 = .ok (.ifCond .lt 22, 3) := by decide +kernel
theorem dX8_bitsOf_14 : decode cX8_bitsOf 14 = .ok (.iload_n 3, 1) := by decide +kernel
theorem dX8_bitsOf_15 : decode cX8_bitsOf 15 = .ok (.sipush 254, 3) := by decide +kernel
theorem dX8_bitsOf_18 : decode cX8_bitsOf 18 = .ok (.if_icmp .ge 15, 3) := by decide +kernel
theorem dX8_bitsOf_21 : decode cX8_bitsOf 21 = .ok (.dload_n 1, 1) := by decide +kernel
theorem dX8_bitsOf_22 : decode cX8_bitsOf 22 = .ok (.ldc2_w 198, 3) := by decide +kernel
theorem dX8_bitsOf_25 : decode cX8_bitsOf 25 = .ok (.dmul, 1) := by decide +kernel
theorem dX8_bitsOf_26 : decode cX8_bitsOf 26 = .ok (.dstore_n 1, 1) := by decide +kernel
theorem dX8_bitsOf_27 : decode cX8_bitsOf 27 = .ok (.iinc 3 1, 3) := by decide +kernel
theorem dX8_bitsOf_30 : decode cX8_bitsOf 30 = .ok (.goto (-24), 3) := by decide +kernel
theorem dX8_bitsOf_33 : decode cX8_bitsOf 33 = .ok (.dload_n 1, 1) := by decide +kernel
theorem dX8_bitsOf_34 : decode cX8_bitsOf 34 = .ok (.dconst 1, 1) := by decide +kernel
theorem dX8_bitsOf_35 : decode cX8_bitsOf 35 = .ok (.dcmp .g, 1) := by decide +kernel
theorem dX8_bitsOf_36 : decode cX8_bitsOf 36 = .ok (.ifCond .ge 20, 3) := by decide +kernel
theorem dX8_bitsOf_39 : decode cX8_bitsOf 39 = .ok (.iload_n 3, 1) := by decide +kernel
theorem dX8_bitsOf_40 : decode cX8_bitsOf 40 = .ok (.iconst 1, 1) := by decide +kernel
theorem dX8_bitsOf_41 : decode cX8_bitsOf 41 = .ok (.if_icmp .le 15, 3) := by decide +kernel
theorem dX8_bitsOf_44 : decode cX8_bitsOf 44 = .ok (.dload_n 1, 1) := by decide +kernel
theorem dX8_bitsOf_45 : decode cX8_bitsOf 45 = .ok (.ldc2_w 196, 3) := by decide +kernel
theorem dX8_bitsOf_48 : decode cX8_bitsOf 48 = .ok (.dmul, 1) := by decide +kernel
theorem dX8_bitsOf_49 : decode cX8_bitsOf 49 = .ok (.dstore_n 1, 1) := by decide +kernel
theorem dX8_bitsOf_50 : decode cX8_bitsOf 50 = .ok (.iinc 3 (-1), 3) := by decide +kernel
theorem dX8_bitsOf_53 : decode cX8_bitsOf 53 = .ok (.goto (-20), 3) := by decide +kernel
theorem dX8_bitsOf_56 : decode cX8_bitsOf 56 = .ok (.iload_n 3, 1) := by decide +kernel
theorem dX8_bitsOf_57 : decode cX8_bitsOf 57 = .ok (.iconst 1, 1) := by decide +kernel
theorem dX8_bitsOf_58 : decode cX8_bitsOf 58 = .ok (.isub, 1) := by decide +kernel
theorem dX8_bitsOf_59 : decode cX8_bitsOf 59 = .ok (.bipush 23, 2) := by decide +kernel
theorem dX8_bitsOf_61 : decode cX8_bitsOf 61 = .ok (.ishl, 1) := by decide +kernel
theorem dX8_bitsOf_62 : decode cX8_bitsOf 62 = .ok (.dload_n 1, 1) := by decide +kernel
theorem dX8_bitsOf_63 : decode cX8_bitsOf 63 = .ok (.ldc2_w 200, 3) := by decide +kernel
theorem dX8_bitsOf_66 : decode cX8_bitsOf 66 = .ok (.dmul, 1) := by decide +kernel
theorem dX8_bitsOf_67 : decode cX8_bitsOf 67 = .ok (.d2i, 1) := by decide +kernel
theorem dX8_bitsOf_68 : decode cX8_bitsOf 68 = .ok (.iadd, 1) := by decide +kernel
theorem dX8_bitsOf_69 : decode cX8_bitsOf 69 = .ok (.ireturn, 1) := by decide +kernel
theorem dX8_within_0 : decode cX8_within 0 = .ok (.iload_n 0, 1) := by decide +kernel
theorem dX8_within_1 : decode cX8_within 1 = .ok (.iload_n 1, 1) := by decide +kernel
theorem dX8_within_2 : decode cX8_within 2 = .ok (.if_icmp .lt 12, 3) := by decide +kernel
theorem dX8_within_5 : decode cX8_within 5 = .ok (.iload_n 0, 1) := by decide +kernel
theorem dX8_within_6 : decode cX8_within 6 = .ok (.iload_n 2, 1) := by decide +kernel
theorem dX8_within_7 : decode cX8_within 7 = .ok (.if_icmp .gt 7, 3) := by decide +kernel
theorem dX8_within_10 : decode cX8_within 10 = .ok (.iconst 1, 1) := by decide +kernel
theorem dX8_within_11 : decode cX8_within 11 = .ok (.goto 4, 3) := by decide +kernel
theorem dX8_within_14 : decode cX8_within 14 = .ok (.iconst 0, 1) := by decide +kernel
theorem dX8_within_15 : decode cX8_within 15 = .ok (.ireturn, 1) := by decide +kernel
theorem dX8_oneIf_0 : decode cX8_oneIf 0 = .ok (.iload_n 0, 1) := by decide +kernel
theorem dX8_oneIf_1 : decode cX8_oneIf 1 = .ok (.ifCond .eq 7, 3) := by decide +kernel
theorem dX8_oneIf_4 : decode cX8_oneIf 4 = .ok (.iconst 1, 1) := by decide +kernel
theorem dX8_oneIf_5 : decode cX8_oneIf 5 = .ok (.goto 4, 3) := by decide +kernel
theorem dX8_oneIf_8 : decode cX8_oneIf 8 = .ok (.iconst 0, 1) := by decide +kernel
theorem dX8_oneIf_9 : decode cX8_oneIf 9 = .ok (.ireturn, 1) := by decide +kernel
theorem dX9_init_0 : decode cX9_init 0 = .ok (.aload_n 0, 1) := by decide +kernel
theorem dX9_init_1 : decode cX9_init 1 = .ok (.invokespecial 1, 3) := by decide +kernel
theorem dX9_init_4 : decode cX9_init 4 = .ok (.aload_n 0, 1) := by decide +kernel
theorem dX9_init_5 : decode cX9_init 5 = .ok (.sipush 424, 3) := by decide +kernel
theorem dX9_init_8 : decode cX9_init 8 = .ok (.newarray .int, 2) := by decide +kernel
theorem dX9_init_10 : decode cX9_init 10 = .ok (.putfield 7, 3) := by decide +kernel
theorem dX9_init_13 : decode cX9_init 13 = .ok (.aload_n 0, 1) := by decide +kernel
theorem dX9_init_14 : decode cX9_init 14 = .ok (.sipush 2120, 3) := by decide +kernel
theorem dX9_init_17 : decode cX9_init 17 = .ok (.newarray .int, 2) := by decide +kernel
theorem dX9_init_19 : decode cX9_init 19 = .ok (.putfield 13, 3) := by decide +kernel
theorem dX9_init_22 : decode cX9_init 22 = .ok (.aload_n 0, 1) := by decide +kernel
theorem dX9_init_23 : decode cX9_init 23 = .ok (.iconst 5, 1) := by decide +kernel
theorem dX9_init_24 : decode cX9_init 24 = .ok (.newarray .float, 2) := by decide +kernel
theorem dX9_init_26 : decode cX9_init 26 = .ok (.putfield 16, 3) := by decide +kernel
theorem dX9_init_29 : decode cX9_init 29 = .ok (.aload_n 0, 1) := by decide +kernel
theorem dX9_init_30 : decode cX9_init 30 = .ok (.sipush 424, 3) := by decide +kernel
theorem dX9_init_33 : decode cX9_init 33 = .ok (.newarray .int, 2) := by decide +kernel
theorem dX9_init_35 : decode cX9_init 35 = .ok (.putfield 20, 3) := by decide +kernel
theorem dX9_init_38 : decode cX9_init 38 = .ok (.aload_n 0, 1) := by decide +kernel
theorem dX9_init_39 : decode cX9_init 39 = .ok (.iconst 3, 1) := by decide +kernel
theorem dX9_init_40 : decode cX9_init 40 = .ok (.newarray .int, 2) := by decide +kernel
theorem dX9_init_42 : decode cX9_init 42 = .ok (.putfield 23, 3) := by decide +kernel
theorem dX9_init_45 : decode cX9_init 45 = .ok (.aload_n 0, 1) := by decide +kernel
theorem dX9_init_46 : decode cX9_init 46 = .ok (.sipush 256, 3) := by decide +kernel
theorem dX9_init_49 : decode cX9_init 49 = .ok (.newarray .boolean, 2) := by decide +kernel
theorem dX9_init_51 : decode cX9_init 51 = .ok (.putfield 26, 3) := by decide +kernel
theorem dX9_init_54 : decode cX9_init 54 = .ok (.aload_n 0, 1) := by decide +kernel
theorem dX9_init_55 : decode cX9_init 55 = .ok (.bipush 120, 2) := by decide +kernel
theorem dX9_init_57 : decode cX9_init 57 = .ok (.newarray .int, 2) := by decide +kernel
theorem dX9_init_59 : decode cX9_init 59 = .ok (.putfield 30, 3) := by decide +kernel
theorem dX9_init_62 : decode cX9_init 62 = .ok (.aload_n 0, 1) := by decide +kernel
theorem dX9_init_63 : decode cX9_init 63 = .ok (.iconst 5, 1) := by decide +kernel
theorem dX9_init_64 : decode cX9_init 64 = .ok (.newarray .int, 2) := by decide +kernel
theorem dX9_init_66 : decode cX9_init 66 = .ok (.putfield 33, 3) := by decide +kernel
theorem dX9_init_69 : decode cX9_init 69 = .ok (.aload_n 0, 1) := by decide +kernel
theorem dX9_init_70 : decode cX9_init 70 = .ok (.iconst (-1), 1) := by decide +kernel
theorem dX9_init_71 : decode cX9_init 71 = .ok (.putfield 36, 3) := by decide +kernel
theorem dX9_init_74 : decode cX9_init 74 = .ok (.return_, 1) := by decide +kernel
theorem dX9_in_0 : decode cX9_in 0 = .ok (.lload_n 0, 1) := by decide +kernel
theorem dX9_in_1 : decode cX9_in 1 = .ok (.lload_n 2, 1) := by decide +kernel
theorem dX9_in_2 : decode cX9_in 2 = .ok (.lcmp, 1) := by decide +kernel
theorem dX9_in_3 : decode cX9_in 3 = .ok (.ifCond .lt 14, 3) := by decide +kernel
theorem dX9_in_6 : decode cX9_in 6 = .ok (.lload_n 0, 1) := by decide +kernel
theorem dX9_in_7 : decode cX9_in 7 = .ok (.lload 4, 2) := by decide +kernel
theorem dX9_in_9 : decode cX9_in 9 = .ok (.lcmp, 1) := by decide +kernel
theorem dX9_in_10 : decode cX9_in 10 = .ok (.ifCond .gt 7, 3) := by decide +kernel
theorem dX9_in_13 : decode cX9_in 13 = .ok (.iconst 1, 1) := by decide +kernel
theorem dX9_in_14 : decode cX9_in 14 = .ok (.goto 4, 3) := by decide +kernel
theorem dX9_in_17 : decode cX9_in 17 = .ok (.iconst 0, 1) := by decide +kernel
theorem dX9_in_18 : decode cX9_in 18 = .ok (.ireturn, 1) := by decide +kernel
theorem dX9_refuses_0 : decode cX9_refuses 0 = .ok (.aload_n 0, 1) := by decide +kernel
theorem dX9_refuses_1 : decode cX9_refuses 1 = .ok (.getfield 23, 3) := by decide +kernel
theorem dX9_refuses_4 : decode cX9_refuses 4 = .ok (.bipush (-2), 2) := by decide +kernel
theorem dX9_refuses_6 : decode cX9_refuses 6 = .ok (.iload_n 1, 1) := by decide +kernel
theorem dX9_refuses_7 : decode cX9_refuses 7 = .ok (.isub, 1) := by decide +kernel
theorem dX9_refuses_8 : decode cX9_refuses 8 = .ok (.dup2, 1) := by decide +kernel
theorem dX9_refuses_9 : decode cX9_refuses 9 = .ok (.iaload, 1) := by decide +kernel
theorem dX9_refuses_10 : decode cX9_refuses 10 = .ok (.iconst 1, 1) := by decide +kernel
theorem dX9_refuses_11 : decode cX9_refuses 11 = .ok (.iadd, 1) := by decide +kernel
theorem dX9_refuses_12 : decode cX9_refuses 12 = .ok (.iastore, 1) := by decide +kernel
theorem dX9_refuses_13 : decode cX9_refuses 13 = .ok (.iload_n 1, 1) := by decide +kernel
theorem dX9_refuses_14 : decode cX9_refuses 14 = .ok (.ireturn, 1) := by decide +kernel
theorem dX9_keep_0 : decode cX9_keep 0 = .ok (.aload_n 0, 1) := by decide +kernel
theorem dX9_keep_1 : decode cX9_keep 1 = .ok (.getfield 40, 3) := by decide +kernel
theorem dX9_keep_4 : decode cX9_keep 4 = .ok (.iconst 5, 1) := by decide +kernel
theorem dX9_keep_5 : decode cX9_keep 5 = .ok (.if_icmp .ne 71, 3) := by decide +kernel
theorem dX9_keep_8 : decode cX9_keep 8 = .ok (.iconst 0, 1) := by decide +kernel
theorem dX9_keep_9 : decode cX9_keep 9 = .ok (.istore_n 1, 1) := by decide +kernel
theorem dX9_keep_10 : decode cX9_keep 10 = .ok (.iload_n 1, 1) := by decide +kernel
theorem dX9_keep_11 : decode cX9_keep 11 = .ok (.sipush 1696, 3) := by decide +kernel
theorem dX9_keep_14 : decode cX9_keep 14 = .ok (.if_icmp .ge 25, 3) := by decide +kernel
theorem dX9_keep_17 : decode cX9_keep 17 = .ok (.aload_n 0, 1) := by decide +kernel
theorem dX9_keep_18 : decode cX9_keep 18 = .ok (.getfield 13, 3) := by decide +kernel
theorem dX9_keep_21 : decode cX9_keep 21 = .ok (.iload_n 1, 1) := by decide +kernel
theorem dX9_keep_22 : decode cX9_keep 22 = .ok (.aload_n 0, 1) := by decide +kernel
theorem dX9_keep_23 : decode cX9_keep 23 = .ok (.getfield 13, 3) := by decide +kernel
theorem dX9_keep_26 : decode cX9_keep 26 = .ok (.iload_n 1, 1) := by decide +kernel
theorem dX9_keep_27 : decode cX9_keep 27 = .ok (.sipush 424, 3) := by decide +kernel
theorem dX9_keep_30 : decode cX9_keep 30 = .ok (.iadd, 1) := by decide +kernel
theorem dX9_keep_31 : decode cX9_keep 31 = .ok (.iaload, 1) := by decide +kernel
theorem dX9_keep_32 : decode cX9_keep 32 = .ok (.iastore, 1) := by decide +kernel
theorem dX9_keep_33 : decode cX9_keep 33 = .ok (.iinc 1 1, 3) := by decide +kernel
theorem dX9_keep_36 : decode cX9_keep 36 = .ok (.goto (-26), 3) := by decide +kernel
theorem dX9_keep_39 : decode cX9_keep 39 = .ok (.iconst 0, 1) := by decide +kernel
theorem dX9_keep_40 : decode cX9_keep 40 = .ok (.istore_n 1, 1) := by decide +kernel
theorem dX9_keep_41 : decode cX9_keep 41 = .ok (.iload_n 1, 1) := by decide +kernel
theorem dX9_keep_42 : decode cX9_keep 42 = .ok (.iconst 4, 1) := by decide +kernel
theorem dX9_keep_43 : decode cX9_keep 43 = .ok (.if_icmp .ge 23, 3) := by decide +kernel
theorem dX9_keep_46 : decode cX9_keep 46 = .ok (.aload_n 0, 1) := by decide +kernel
theorem dX9_keep_47 : decode cX9_keep 47 = .ok (.getfield 16, 3) := by decide +kernel
theorem dX9_keep_50 : decode cX9_keep 50 = .ok (.iload_n 1, 1) := by decide +kernel
theorem dX9_keep_51 : decode cX9_keep 51 = .ok (.aload_n 0, 1) := by decide +kernel
theorem dX9_keep_52 : decode cX9_keep 52 = .ok (.getfield 16, 3) := by decide +kernel
theorem dX9_keep_55 : decode cX9_keep 55 = .ok (.iload_n 1, 1) := by decide +kernel
theorem dX9_keep_56 : decode cX9_keep 56 = .ok (.iconst 1, 1) := by decide +kernel
theorem dX9_keep_57 : decode cX9_keep 57 = .ok (.iadd, 1) := by decide +kernel
theorem dX9_keep_58 : decode cX9_keep 58 = .ok (.faload, 1) := by decide +kernel
theorem dX9_keep_59 : decode cX9_keep 59 = .ok (.fastore, 1) := by decide +kernel
theorem dX9_keep_60 : decode cX9_keep 60 = .ok (.iinc 1 1, 3) := by decide +kernel
theorem dX9_keep_63 : decode cX9_keep 63 = .ok (.goto (-22), 3) := by decide +kernel
theorem dX9_keep_66 : decode cX9_keep 66 = .ok (.aload_n 0, 1) := by decide +kernel
theorem dX9_keep_67 : decode cX9_keep 67 = .ok (.dup, 1) := by decide +kernel
theorem dX9_keep_68 : decode cX9_keep 68 = .ok (.getfield 40, 3) := by decide +kernel
theorem dX9_keep_71 : decode cX9_keep 71 = .ok (.iconst 1, 1) := by decide +kernel
theorem dX9_keep_72 : decode cX9_keep 72 = .ok (.isub, 1) := by decide +kernel
theorem dX9_keep_73 : decode cX9_keep 73 = .ok (.putfield 40, 3) := by decide +kernel
theorem dX9_keep_76 : decode cX9_keep 76 = .ok (.iconst 0, 1) := by decide +kernel
theorem dX9_keep_77 : decode cX9_keep 77 = .ok (.istore_n 1, 1) := by decide +kernel
theorem dX9_keep_78 : decode cX9_keep 78 = .ok (.iload_n 1, 1) := by decide +kernel
theorem dX9_keep_79 : decode cX9_keep 79 = .ok (.sipush 424, 3) := by decide +kernel
theorem dX9_keep_82 : decode cX9_keep 82 = .ok (.if_icmp .ge 30, 3) := by decide +kernel
theorem dX9_keep_85 : decode cX9_keep 85 = .ok (.aload_n 0, 1) := by decide +kernel
theorem dX9_keep_86 : decode cX9_keep 86 = .ok (.getfield 13, 3) := by decide +kernel
theorem dX9_keep_89 : decode cX9_keep 89 = .ok (.sipush 424, 3) := by decide +kernel
theorem dX9_keep_92 : decode cX9_keep 92 = .ok (.aload_n 0, 1) := by decide +kernel
theorem dX9_keep_93 : decode cX9_keep 93 = .ok (.getfield 40, 3) := by decide +kernel
theorem dX9_keep_96 : decode cX9_keep 96 = .ok (.imul, 1) := by decide +kernel
theorem dX9_keep_97 : decode cX9_keep 97 = .ok (.iload_n 1, 1) := by decide +kernel
theorem dX9_keep_98 : decode cX9_keep 98 = .ok (.iadd, 1) := by decide +kernel
theorem dX9_keep_99 : decode cX9_keep 99 = .ok (.aload_n 0, 1) := by decide +kernel
theorem dX9_keep_100 : decode cX9_keep 100 = .ok (.getfield 7, 3) := by decide +kernel
theorem dX9_keep_103 : decode cX9_keep 103 = .ok (.iload_n 1, 1) := by decide +kernel
theorem dX9_keep_104 : decode cX9_keep 104 = .ok (.iaload, 1) := by decide +kernel
theorem dX9_keep_105 : decode cX9_keep 105 = .ok (.iastore, 1) := by decide +kernel
theorem dX9_keep_106 : decode cX9_keep 106 = .ok (.iinc 1 1, 3) := by decide +kernel
theorem dX9_keep_109 : decode cX9_keep 109 = .ok (.goto (-31), 3) := by decide +kernel
theorem dX9_keep_112 : decode cX9_keep 112 = .ok (.aload_n 0, 1) := by decide +kernel
theorem dX9_keep_113 : decode cX9_keep 113 = .ok (.getfield 16, 3) := by decide +kernel
theorem dX9_keep_116 : decode cX9_keep 116 = .ok (.aload_n 0, 1) := by decide +kernel
theorem dX9_keep_117 : decode cX9_keep 117 = .ok (.getfield 40, 3) := by decide +kernel
theorem dX9_keep_120 : decode cX9_keep 120 = .ok (.aload_n 0, 1) := by decide +kernel
theorem dX9_keep_121 : decode cX9_keep 121 = .ok (.getfield 43, 3) := by decide +kernel
theorem dX9_keep_124 : decode cX9_keep 124 = .ok (.fastore, 1) := by decide +kernel
theorem dX9_keep_125 : decode cX9_keep 125 = .ok (.aload_n 0, 1) := by decide +kernel
theorem dX9_keep_126 : decode cX9_keep 126 = .ok (.dup, 1) := by decide +kernel
theorem dX9_keep_127 : decode cX9_keep 127 = .ok (.getfield 40, 3) := by decide +kernel
theorem dX9_keep_130 : decode cX9_keep 130 = .ok (.iconst 1, 1) := by decide +kernel
theorem dX9_keep_131 : decode cX9_keep 131 = .ok (.iadd, 1) := by decide +kernel
theorem dX9_keep_132 : decode cX9_keep 132 = .ok (.putfield 40, 3) := by decide +kernel
theorem dX9_keep_135 : decode cX9_keep 135 = .ok (.return_, 1) := by decide +kernel
theorem dX9_isHost_0 : decode cX9_isHost 0 = .ok (.iload_n 1, 1) := by decide +kernel
theorem dX9_isHost_1 : decode cX9_isHost 1 = .ok (.i2l, 1) := by decide +kernel
theorem dX9_isHost_2 : decode cX9_isHost 2 = .ok (.lconst 0, 1) := by decide +kernel
theorem dX9_isHost_3 : decode cX9_isHost 3 = .ok (.aload_n 0, 1) := by decide +kernel
theorem dX9_isHost_4 : decode cX9_isHost 4 = .ok (.getfield 7, 3) := by decide +kernel
theorem dX9_isHost_7 : decode cX9_isHost 7 = .ok (.iconst 0, 1) := by decide +kernel
theorem dX9_isHost_8 : decode cX9_isHost 8 = .ok (.iaload, 1) := by decide +kernel
theorem dX9_isHost_9 : decode cX9_isHost 9 = .ok (.iconst 1, 1) := by decide +kernel
theorem dX9_isHost_10 : decode cX9_isHost 10 = .ok (.isub, 1) := by decide +kernel
theorem dX9_isHost_11 : decode cX9_isHost 11 = .ok (.i2l, 1) := by decide +kernel
theorem dX9_isHost_12 : decode cX9_isHost 12 = .ok (.invokestatic 47, 3) := by decide +kernel
theorem dX9_isHost_15 : decode cX9_isHost 15 = .ok (.ireturn, 1) := by decide +kernel
theorem dX9_isAwake_0 : decode cX9_isAwake 0 = .ok (.aload_n 0, 1) := by decide +kernel
theorem dX9_isAwake_1 : decode cX9_isAwake 1 = .ok (.getfield 7, 3) := by decide +kernel
theorem dX9_isAwake_4 : decode cX9_isAwake 4 = .ok (.bipush 10, 2) := by decide +kernel
theorem dX9_isAwake_6 : decode cX9_isAwake 6 = .ok (.iconst 4, 1) := by decide +kernel
theorem dX9_isAwake_7 : decode cX9_isAwake 7 = .ok (.iload_n 1, 1) := by decide +kernel
theorem dX9_isAwake_8 : decode cX9_isAwake 8 = .ok (.imul, 1) := by decide +kernel
theorem dX9_isAwake_9 : decode cX9_isAwake 9 = .ok (.iadd, 1) := by decide +kernel
theorem dX9_isAwake_10 : decode cX9_isAwake 10 = .ok (.iaload, 1) := by decide +kernel
theorem dX9_isAwake_11 : decode cX9_isAwake 11 = .ok (.iconst 1, 1) := by decide +kernel
theorem dX9_isAwake_12 : decode cX9_isAwake 12 = .ok (.if_icmp .ne 7, 3) := by decide +kernel
theorem dX9_isAwake_15 : decode cX9_isAwake 15 = .ok (.iconst 1, 1) := by decide +kernel
theorem dX9_isAwake_16 : decode cX9_isAwake 16 = .ok (.goto 4, 3) := by decide +kernel
theorem dX9_isAwake_19 : decode cX9_isAwake 19 = .ok (.iconst 0, 1) := by decide +kernel
theorem dX9_isAwake_20 : decode cX9_isAwake 20 = .ok (.ireturn, 1) := by decide +kernel
theorem dX9_proxy_0 : decode cX9_proxy 0 = .ok (.aload_n 0, 1) := by decide +kernel
theorem dX9_proxy_1 : decode cX9_proxy 1 = .ok (.getfield 7, 3) := by decide +kernel
theorem dX9_proxy_4 : decode cX9_proxy 4 = .ok (.bipush 10, 2) := by decide +kernel
theorem dX9_proxy_6 : decode cX9_proxy 6 = .ok (.iconst 4, 1) := by decide +kernel
theorem dX9_proxy_7 : decode cX9_proxy 7 = .ok (.iload_n 1, 1) := by decide +kernel
theorem dX9_proxy_8 : decode cX9_proxy 8 = .ok (.imul, 1) := by decide +kernel
theorem dX9_proxy_9 : decode cX9_proxy 9 = .ok (.iadd, 1) := by decide +kernel
theorem dX9_proxy_10 : decode cX9_proxy 10 = .ok (.iconst 1, 1) := by decide +kernel
theorem dX9_proxy_11 : decode cX9_proxy 11 = .ok (.iadd, 1) := by decide +kernel
theorem dX9_proxy_12 : decode cX9_proxy 12 = .ok (.iaload, 1) := by decide +kernel
theorem dX9_proxy_13 : decode cX9_proxy 13 = .ok (.ireturn, 1) := by decide +kernel
theorem dX9_records_0 : decode cX9_records 0 = .ok (.aload_n 0, 1) := by decide +kernel
theorem dX9_records_1 : decode cX9_records 1 = .ok (.getfield 7, 3) := by decide +kernel
theorem dX9_records_4 : decode cX9_records 4 = .ok (.bipush 10, 2) := by decide +kernel
theorem dX9_records_6 : decode cX9_records 6 = .ok (.iconst 4, 1) := by decide +kernel
theorem dX9_records_7 : decode cX9_records 7 = .ok (.iload_n 1, 1) := by decide +kernel
theorem dX9_records_8 : decode cX9_records 8 = .ok (.imul, 1) := by decide +kernel
theorem dX9_records_9 : decode cX9_records 9 = .ok (.iadd, 1) := by decide +kernel
theorem dX9_records_10 : decode cX9_records 10 = .ok (.iconst 2, 1) := by decide +kernel
theorem dX9_records_11 : decode cX9_records 11 = .ok (.iadd, 1) := by decide +kernel
theorem dX9_records_12 : decode cX9_records 12 = .ok (.iaload, 1) := by decide +kernel
theorem dX9_records_13 : decode cX9_records 13 = .ok (.ireturn, 1) := by decide +kernel
theorem dX9_entries_0 : decode cX9_entries 0 = .ok (.aload_n 0, 1) := by decide +kernel
theorem dX9_entries_1 : decode cX9_entries 1 = .ok (.getfield 7, 3) := by decide +kernel
theorem dX9_entries_4 : decode cX9_entries 4 = .ok (.bipush 10, 2) := by decide +kernel
theorem dX9_entries_6 : decode cX9_entries 6 = .ok (.iconst 4, 1) := by decide +kernel
theorem dX9_entries_7 : decode cX9_entries 7 = .ok (.iload_n 1, 1) := by decide +kernel
theorem dX9_entries_8 : decode cX9_entries 8 = .ok (.imul, 1) := by decide +kernel
theorem dX9_entries_9 : decode cX9_entries 9 = .ok (.iadd, 1) := by decide +kernel
theorem dX9_entries_10 : decode cX9_entries 10 = .ok (.iconst 3, 1) := by decide +kernel
theorem dX9_entries_11 : decode cX9_entries 11 = .ok (.iadd, 1) := by decide +kernel
theorem dX9_entries_12 : decode cX9_entries 12 = .ok (.iaload, 1) := by decide +kernel
theorem dX9_entries_13 : decode cX9_entries 13 = .ok (.ireturn, 1) := by decide +kernel
theorem dX9_at_0 : decode cX9_at 0 = .ok (.bipush 34, 2) := by decide +kernel
theorem dX9_at_2 : decode cX9_at 2 = .ok (.bipush 7, 2) := by decide +kernel
theorem dX9_at_4 : decode cX9_at 4 = .ok (.iconst 5, 1) := by decide +kernel
theorem dX9_at_5 : decode cX9_at 5 = .ok (.iload_n 0, 1) := by decide +kernel
theorem dX9_at_6 : decode cX9_at 6 = .ok (.imul, 1) := by decide +kernel
theorem dX9_at_7 : decode cX9_at 7 = .ok (.iload_n 1, 1) := by decide +kernel
theorem dX9_at_8 : decode cX9_at 8 = .ok (.iadd, 1) := by decide +kernel
theorem dX9_at_9 : decode cX9_at 9 = .ok (.imul, 1) := by decide +kernel
theorem dX9_at_10 : decode cX9_at 10 = .ok (.iadd, 1) := by decide +kernel
theorem dX9_at_11 : decode cX9_at 11 = .ok (.ireturn, 1) := by decide +kernel
theorem dX9_kept_0 : decode cX9_kept 0 = .ok (.sipush 244, 3) := by decide +kernel
theorem dX9_kept_3 : decode cX9_kept 3 = .ok (.iconst 5, 1) := by decide +kernel
theorem dX9_kept_4 : decode cX9_kept 4 = .ok (.bipush 6, 2) := by decide +kernel
theorem dX9_kept_6 : decode cX9_kept 6 = .ok (.iload_n 0, 1) := by decide +kernel
theorem dX9_kept_7 : decode cX9_kept 7 = .ok (.imul, 1) := by decide +kernel
theorem dX9_kept_8 : decode cX9_kept 8 = .ok (.iload_n 1, 1) := by decide +kernel
theorem dX9_kept_9 : decode cX9_kept 9 = .ok (.iadd, 1) := by decide +kernel
theorem dX9_kept_10 : decode cX9_kept 10 = .ok (.imul, 1) := by decide +kernel
theorem dX9_kept_11 : decode cX9_kept 11 = .ok (.iadd, 1) := by decide +kernel
theorem dX9_kept_12 : decode cX9_kept 12 = .ok (.ireturn, 1) := by decide +kernel
theorem dX9_areOne_0 : decode cX9_areOne 0 = .ok (.aload_n 0, 1) := by decide +kernel
theorem dX9_areOne_1 : decode cX9_areOne 1 = .ok (.getfield 7, 3) := by decide +kernel
theorem dX9_areOne_4 : decode cX9_areOne 4 = .ok (.iload_n 1, 1) := by decide +kernel
theorem dX9_areOne_5 : decode cX9_areOne 5 = .ok (.iconst 0, 1) := by decide +kernel
theorem dX9_areOne_6 : decode cX9_areOne 6 = .ok (.iadd, 1) := by decide +kernel
theorem dX9_areOne_7 : decode cX9_areOne 7 = .ok (.iaload, 1) := by decide +kernel
theorem dX9_areOne_8 : decode cX9_areOne 8 = .ok (.aload_n 0, 1) := by decide +kernel
theorem dX9_areOne_9 : decode cX9_areOne 9 = .ok (.getfield 7, 3) := by decide +kernel
theorem dX9_areOne_12 : decode cX9_areOne 12 = .ok (.iload_n 2, 1) := by decide +kernel
theorem dX9_areOne_13 : decode cX9_areOne 13 = .ok (.iconst 0, 1) := by decide +kernel
theorem dX9_areOne_14 : decode cX9_areOne 14 = .ok (.iadd, 1) := by decide +kernel
theorem dX9_areOne_15 : decode cX9_areOne 15 = .ok (.iaload, 1) := by decide +kernel
theorem dX9_areOne_16 : decode cX9_areOne 16 = .ok (.if_icmp .ne 26, 3) := by decide +kernel
theorem dX9_areOne_19 : decode cX9_areOne 19 = .ok (.aload_n 0, 1) := by decide +kernel
theorem dX9_areOne_20 : decode cX9_areOne 20 = .ok (.getfield 7, 3) := by decide +kernel
theorem dX9_areOne_23 : decode cX9_areOne 23 = .ok (.iload_n 1, 1) := by decide +kernel
theorem dX9_areOne_24 : decode cX9_areOne 24 = .ok (.iconst 1, 1) := by decide +kernel
theorem dX9_areOne_25 : decode cX9_areOne 25 = .ok (.iadd, 1) := by decide +kernel
theorem dX9_areOne_26 : decode cX9_areOne 26 = .ok (.iaload, 1) := by decide +kernel
theorem dX9_areOne_27 : decode cX9_areOne 27 = .ok (.aload_n 0, 1) := by decide +kernel
theorem dX9_areOne_28 : decode cX9_areOne 28 = .ok (.getfield 7, 3) := by decide +kernel
theorem dX9_areOne_31 : decode cX9_areOne 31 = .ok (.iload_n 2, 1) := by decide +kernel
theorem dX9_areOne_32 : decode cX9_areOne 32 = .ok (.iconst 1, 1) := by decide +kernel
theorem dX9_areOne_33 : decode cX9_areOne 33 = .ok (.iadd, 1) := by decide +kernel
theorem dX9_areOne_34 : decode cX9_areOne 34 = .ok (.iaload, 1) := by decide +kernel
theorem dX9_areOne_35 : decode cX9_areOne 35 = .ok (.if_icmp .ne 7, 3) := by decide +kernel
theorem dX9_areOne_38 : decode cX9_areOne 38 = .ok (.iconst 1, 1) := by decide +kernel
theorem dX9_areOne_39 : decode cX9_areOne 39 = .ok (.goto 4, 3) := by decide +kernel
theorem dX9_areOne_42 : decode cX9_areOne 42 = .ok (.iconst 0, 1) := by decide +kernel
theorem dX9_areOne_43 : decode cX9_areOne 43 = .ok (.ireturn, 1) := by decide +kernel
theorem dX9_areSame_0 : decode cX9_areSame 0 = .ok (.aload_n 0, 1) := by decide +kernel
theorem dX9_areSame_1 : decode cX9_areSame 1 = .ok (.iload_n 1, 1) := by decide +kernel
theorem dX9_areSame_2 : decode cX9_areSame 2 = .ok (.iload_n 2, 1) := by decide +kernel
theorem dX9_areSame_3 : decode cX9_areSame 3 = .ok (.invokevirtual 51, 3) := by decide +kernel
theorem dX9_areSame_6 : decode cX9_areSame 6 = .ok (.ifCond .eq 26, 3) := by decide +kernel
theorem dX9_areSame_9 : decode cX9_areSame 9 = .ok (.aload_n 0, 1) := by decide +kernel
theorem dX9_areSame_10 : decode cX9_areSame 10 = .ok (.getfield 7, 3) := by decide +kernel
theorem dX9_areSame_13 : decode cX9_areSame 13 = .ok (.iload_n 1, 1) := by decide +kernel
theorem dX9_areSame_14 : decode cX9_areSame 14 = .ok (.iconst 2, 1) := by decide +kernel
theorem dX9_areSame_15 : decode cX9_areSame 15 = .ok (.iadd, 1) := by decide +kernel
theorem dX9_areSame_16 : decode cX9_areSame 16 = .ok (.iaload, 1) := by decide +kernel
theorem dX9_areSame_17 : decode cX9_areSame 17 = .ok (.aload_n 0, 1) := by decide +kernel
theorem dX9_areSame_18 : decode cX9_areSame 18 = .ok (.getfield 7, 3) := by decide +kernel
theorem dX9_areSame_21 : decode cX9_areSame 21 = .ok (.iload_n 2, 1) := by decide +kernel
theorem dX9_areSame_22 : decode cX9_areSame 22 = .ok (.iconst 2, 1) := by decide +kernel
theorem dX9_areSame_23 : decode cX9_areSame 23 = .ok (.iadd, 1) := by decide +kernel
theorem dX9_areSame_24 : decode cX9_areSame 24 = .ok (.iaload, 1) := by decide +kernel
theorem dX9_areSame_25 : decode cX9_areSame 25 = .ok (.if_icmp .ne 7, 3) := by decide +kernel
theorem dX9_areSame_28 : decode cX9_areSame 28 = .ok (.iconst 1, 1) := by decide +kernel
theorem dX9_areSame_29 : decode cX9_areSame 29 = .ok (.goto 4, 3) := by decide +kernel
theorem dX9_areSame_32 : decode cX9_areSame 32 = .ok (.iconst 0, 1) := by decide +kernel
theorem dX9_areSame_33 : decode cX9_areSame 33 = .ok (.ireturn, 1) := by decide +kernel
theorem dX9_isDefended_0 : decode cX9_isDefended 0 = .ok (.iload_n 1, 1) := by decide +kernel
theorem dX9_isDefended_1 : decode cX9_isDefended 1 = .ok (.iload_n 2, 1) := by decide +kernel
theorem dX9_isDefended_2 : decode cX9_isDefended 2 = .ok (.invokestatic 55, 3) := by decide +kernel
theorem dX9_isDefended_5 : decode cX9_isDefended 5 = .ok (.istore_n 3, 1) := by decide +kernel
theorem dX9_isDefended_6 : decode cX9_isDefended 6 = .ok (.aload_n 0, 1) := by decide +kernel
theorem dX9_isDefended_7 : decode cX9_isDefended 7 = .ok (.iload_n 1, 1) := by decide +kernel
theorem dX9_isDefended_8 : decode cX9_isDefended 8 = .ok (.invokevirtual 59, 3) := by decide +kernel
theorem dX9_isDefended_11 : decode cX9_isDefended 11 = .ok (.ifCond .ne 24, 3) := by decide +kernel
theorem dX9_isDefended_14 : decode cX9_isDefended 14 = .ok (.aload_n 0, 1) := by decide +kernel
theorem dX9_isDefended_15 : decode cX9_isDefended 15 = .ok (.iload_n 1, 1) := by decide +kernel
theorem dX9_isDefended_16 : decode cX9_isDefended 16 = .ok (.invokevirtual 63, 3) := by decide +kernel
theorem dX9_isDefended_19 : decode cX9_isDefended 19 = .ok (.iconst (-1), 1) := by decide +kernel
theorem dX9_isDefended_20 : decode cX9_isDefended 20 = .ok (.if_icmp .eq 19, 3) := by decide +kernel
theorem dX9_isDefended_23 : decode cX9_isDefended 23 = .ok (.aload_n 0, 1) := by decide +kernel
theorem dX9_isDefended_24 : decode cX9_isDefended 24 = .ok (.aload_n 0, 1) := by decide +kernel
theorem dX9_isDefended_25 : decode cX9_isDefended 25 = .ok (.iload_n 1, 1) := by decide +kernel
theorem dX9_isDefended_26 : decode cX9_isDefended 26 = .ok (.invokevirtual 63, 3) := by decide +kernel
theorem dX9_isDefended_29 : decode cX9_isDefended 29 = .ok (.invokevirtual 59, 3) := by decide +kernel
theorem dX9_isDefended_32 : decode cX9_isDefended 32 = .ok (.ifCond .eq 7, 3) := by decide +kernel
theorem dX9_isDefended_35 : decode cX9_isDefended 35 = .ok (.iconst 1, 1) := by decide +kernel
theorem dX9_isDefended_36 : decode cX9_isDefended 36 = .ok (.goto 4, 3) := by decide +kernel
theorem dX9_isDefended_39 : decode cX9_isDefended 39 = .ok (.iconst 0, 1) := by decide +kernel
theorem dX9_isDefended_40 : decode cX9_isDefended 40 = .ok (.istore 4, 2) := by decide +kernel
theorem dX9_isDefended_42 : decode cX9_isDefended 42 = .ok (.aload_n 0, 1) := by decide +kernel
theorem dX9_isDefended_43 : decode cX9_isDefended 43 = .ok (.getfield 7, 3) := by decide +kernel
theorem dX9_isDefended_46 : decode cX9_isDefended 46 = .ok (.iload_n 3, 1) := by decide +kernel
theorem dX9_isDefended_47 : decode cX9_isDefended 47 = .ok (.iconst 4, 1) := by decide +kernel
theorem dX9_isDefended_48 : decode cX9_isDefended 48 = .ok (.iadd, 1) := by decide +kernel
theorem dX9_isDefended_49 : decode cX9_isDefended 49 = .ok (.iaload, 1) := by decide +kernel
theorem dX9_isDefended_50 : decode cX9_isDefended 50 = .ok (.iconst 3, 1) := by decide +kernel
theorem dX9_isDefended_51 : decode cX9_isDefended 51 = .ok (.if_icmp .ne 25, 3) := by decide +kernel
theorem dX9_isDefended_54 : decode cX9_isDefended 54 = .ok (.aload_n 0, 1) := by decide +kernel
theorem dX9_isDefended_55 : decode cX9_isDefended 55 = .ok (.getfield 7, 3) := by decide +kernel
theorem dX9_isDefended_58 : decode cX9_isDefended 58 = .ok (.iload_n 3, 1) := by decide +kernel
theorem dX9_isDefended_59 : decode cX9_isDefended 59 = .ok (.bipush 6, 2) := by decide +kernel
end
section
theorem dX9_isDefended_61 : decode cX9_isDefended 61 = .ok (.iadd, 1) := by decide +kernel
theorem dX9_isDefended_62 : decode cX9_isDefended 62 = .ok (.iaload, 1) := by decide +kernel
theorem dX9_isDefended_63 : decode cX9_isDefended 63 = .ok (.iconst 1, 1) := by decide +kernel
theorem dX9_isDefended_64 : decode cX9_isDefended 64 = .ok (.if_icmp .ne 12, 3) := by decide +kernel
theorem dX9_isDefended_67 : decode cX9_isDefended 67 = .ok (.iload 4, 2) := by decide +kernel
theorem dX9_isDefended_69 : decode cX9_isDefended 69 = .ok (.ifCond .eq 7, 3) := by decide +kernel
theorem dX9_isDefended_72 : decode cX9_isDefended 72 = .ok (.iconst 1, 1) := by decide +kernel
theorem dX9_isDefended_73 : decode cX9_isDefended 73 = .ok (.goto 4, 3) := by decide +kernel
theorem dX9_isDefended_76 : decode cX9_isDefended 76 = .ok (.iconst 0, 1) := by decide +kernel
theorem dX9_isDefended_77 : decode cX9_isDefended 77 = .ok (.ireturn, 1) := by decide +kernel
theorem dX9_dropsEntry_0 : decode cX9_dropsEntry 0 = .ok (.aload_n 0, 1) := by decide +kernel
theorem dX9_dropsEntry_1 : decode cX9_dropsEntry 1 = .ok (.getfield 7, 3) := by decide +kernel
theorem dX9_dropsEntry_4 : decode cX9_dropsEntry 4 = .ok (.bipush 10, 2) := by decide +kernel
theorem dX9_dropsEntry_6 : decode cX9_dropsEntry 6 = .ok (.iconst 4, 1) := by decide +kernel
theorem dX9_dropsEntry_7 : decode cX9_dropsEntry 7 = .ok (.iload_n 1, 1) := by decide +kernel
theorem dX9_dropsEntry_8 : decode cX9_dropsEntry 8 = .ok (.imul, 1) := by decide +kernel
theorem dX9_dropsEntry_9 : decode cX9_dropsEntry 9 = .ok (.iadd, 1) := by decide +kernel
theorem dX9_dropsEntry_10 : decode cX9_dropsEntry 10 = .ok (.iconst 3, 1) := by decide +kernel
theorem dX9_dropsEntry_11 : decode cX9_dropsEntry 11 = .ok (.iadd, 1) := by decide +kernel
theorem dX9_dropsEntry_12 : decode cX9_dropsEntry 12 = .ok (.dup2, 1) := by decide +kernel
theorem dX9_dropsEntry_13 : decode cX9_dropsEntry 13 = .ok (.iaload, 1) := by decide +kernel
theorem dX9_dropsEntry_14 : decode cX9_dropsEntry 14 = .ok (.iconst 1, 1) := by decide +kernel
theorem dX9_dropsEntry_15 : decode cX9_dropsEntry 15 = .ok (.isub, 1) := by decide +kernel
theorem dX9_dropsEntry_16 : decode cX9_dropsEntry 16 = .ok (.iastore, 1) := by decide +kernel
theorem dX9_dropsEntry_17 : decode cX9_dropsEntry 17 = .ok (.iload_n 1, 1) := by decide +kernel
theorem dX9_dropsEntry_18 : decode cX9_dropsEntry 18 = .ok (.iload_n 2, 1) := by decide +kernel
theorem dX9_dropsEntry_19 : decode cX9_dropsEntry 19 = .ok (.invokestatic 67, 3) := by decide +kernel
theorem dX9_dropsEntry_22 : decode cX9_dropsEntry 22 = .ok (.istore_n 3, 1) := by decide +kernel
theorem dX9_dropsEntry_23 : decode cX9_dropsEntry 23 = .ok (.iload_n 3, 1) := by decide +kernel
theorem dX9_dropsEntry_24 : decode cX9_dropsEntry 24 = .ok (.iload_n 1, 1) := by decide +kernel
theorem dX9_dropsEntry_25 : decode cX9_dropsEntry 25 = .ok (.aload_n 0, 1) := by decide +kernel
theorem dX9_dropsEntry_26 : decode cX9_dropsEntry 26 = .ok (.iload_n 1, 1) := by decide +kernel
theorem dX9_dropsEntry_27 : decode cX9_dropsEntry 27 = .ok (.invokevirtual 70, 3) := by decide +kernel
theorem dX9_dropsEntry_30 : decode cX9_dropsEntry 30 = .ok (.invokestatic 67, 3) := by decide +kernel
theorem dX9_dropsEntry_33 : decode cX9_dropsEntry 33 = .ok (.if_icmp .ge 23, 3) := by decide +kernel
theorem dX9_dropsEntry_36 : decode cX9_dropsEntry 36 = .ok (.aload_n 0, 1) := by decide +kernel
theorem dX9_dropsEntry_37 : decode cX9_dropsEntry 37 = .ok (.getfield 7, 3) := by decide +kernel
theorem dX9_dropsEntry_40 : decode cX9_dropsEntry 40 = .ok (.iload_n 3, 1) := by decide +kernel
theorem dX9_dropsEntry_41 : decode cX9_dropsEntry 41 = .ok (.aload_n 0, 1) := by decide +kernel
theorem dX9_dropsEntry_42 : decode cX9_dropsEntry 42 = .ok (.getfield 7, 3) := by decide +kernel
theorem dX9_dropsEntry_45 : decode cX9_dropsEntry 45 = .ok (.iload_n 3, 1) := by decide +kernel
theorem dX9_dropsEntry_46 : decode cX9_dropsEntry 46 = .ok (.iconst 5, 1) := by decide +kernel
theorem dX9_dropsEntry_47 : decode cX9_dropsEntry 47 = .ok (.iadd, 1) := by decide +kernel
theorem dX9_dropsEntry_48 : decode cX9_dropsEntry 48 = .ok (.iaload, 1) := by decide +kernel
theorem dX9_dropsEntry_49 : decode cX9_dropsEntry 49 = .ok (.iastore, 1) := by decide +kernel
theorem dX9_dropsEntry_50 : decode cX9_dropsEntry 50 = .ok (.iinc 3 1, 3) := by decide +kernel
theorem dX9_dropsEntry_53 : decode cX9_dropsEntry 53 = .ok (.goto (-30), 3) := by decide +kernel
theorem dX9_dropsEntry_56 : decode cX9_dropsEntry 56 = .ok (.return_, 1) := by decide +kernel
theorem dX9_hasSame_0 : decode cX9_hasSame 0 = .ok (.iconst 0, 1) := by decide +kernel
theorem dX9_hasSame_1 : decode cX9_hasSame 1 = .ok (.istore_n 3, 1) := by decide +kernel
theorem dX9_hasSame_2 : decode cX9_hasSame 2 = .ok (.iconst 0, 1) := by decide +kernel
theorem dX9_hasSame_3 : decode cX9_hasSame 3 = .ok (.istore 4, 2) := by decide +kernel
theorem dX9_hasSame_5 : decode cX9_hasSame 5 = .ok (.iload 4, 2) := by decide +kernel
theorem dX9_hasSame_7 : decode cX9_hasSame 7 = .ok (.aload_n 0, 1) := by decide +kernel
theorem dX9_hasSame_8 : decode cX9_hasSame 8 = .ok (.iload_n 1, 1) := by decide +kernel
theorem dX9_hasSame_9 : decode cX9_hasSame 9 = .ok (.invokevirtual 73, 3) := by decide +kernel
theorem dX9_hasSame_12 : decode cX9_hasSame 12 = .ok (.if_icmp .ge 33, 3) := by decide +kernel
theorem dX9_hasSame_15 : decode cX9_hasSame 15 = .ok (.iload_n 3, 1) := by decide +kernel
theorem dX9_hasSame_16 : decode cX9_hasSame 16 = .ok (.ifCond .ne 17, 3) := by decide +kernel
theorem dX9_hasSame_19 : decode cX9_hasSame 19 = .ok (.aload_n 0, 1) := by decide +kernel
theorem dX9_hasSame_20 : decode cX9_hasSame 20 = .ok (.iload_n 1, 1) := by decide +kernel
theorem dX9_hasSame_21 : decode cX9_hasSame 21 = .ok (.iload 4, 2) := by decide +kernel
theorem dX9_hasSame_23 : decode cX9_hasSame 23 = .ok (.invokestatic 55, 3) := by decide +kernel
theorem dX9_hasSame_26 : decode cX9_hasSame 26 = .ok (.iload_n 2, 1) := by decide +kernel
theorem dX9_hasSame_27 : decode cX9_hasSame 27 = .ok (.invokevirtual 76, 3) := by decide +kernel
theorem dX9_hasSame_30 : decode cX9_hasSame 30 = .ok (.ifCond .eq 7, 3) := by decide +kernel
theorem dX9_hasSame_33 : decode cX9_hasSame 33 = .ok (.iconst 1, 1) := by decide +kernel
theorem dX9_hasSame_34 : decode cX9_hasSame 34 = .ok (.goto 4, 3) := by decide +kernel
theorem dX9_hasSame_37 : decode cX9_hasSame 37 = .ok (.iconst 0, 1) := by decide +kernel
theorem dX9_hasSame_38 : decode cX9_hasSame 38 = .ok (.istore_n 3, 1) := by decide +kernel
theorem dX9_hasSame_39 : decode cX9_hasSame 39 = .ok (.iinc 4 1, 3) := by decide +kernel
theorem dX9_hasSame_42 : decode cX9_hasSame 42 = .ok (.goto (-37), 3) := by decide +kernel
theorem dX9_hasSame_45 : decode cX9_hasSame 45 = .ok (.iload_n 3, 1) := by decide +kernel
theorem dX9_hasSame_46 : decode cX9_hasSame 46 = .ok (.ireturn, 1) := by decide +kernel
theorem dX9_shortens_0 : decode cX9_shortens 0 = .ok (.aload_n 0, 1) := by decide +kernel
theorem dX9_shortens_1 : decode cX9_shortens 1 = .ok (.getfield 7, 3) := by decide +kernel
theorem dX9_shortens_4 : decode cX9_shortens 4 = .ok (.iload_n 1, 1) := by decide +kernel
theorem dX9_shortens_5 : decode cX9_shortens 5 = .ok (.iconst 4, 1) := by decide +kernel
theorem dX9_shortens_6 : decode cX9_shortens 6 = .ok (.iadd, 1) := by decide +kernel
theorem dX9_shortens_7 : decode cX9_shortens 7 = .ok (.aload_n 0, 1) := by decide +kernel
theorem dX9_shortens_8 : decode cX9_shortens 8 = .ok (.getfield 7, 3) := by decide +kernel
theorem dX9_shortens_11 : decode cX9_shortens 11 = .ok (.iload_n 1, 1) := by decide +kernel
theorem dX9_shortens_12 : decode cX9_shortens 12 = .ok (.iconst 4, 1) := by decide +kernel
theorem dX9_shortens_13 : decode cX9_shortens 13 = .ok (.iadd, 1) := by decide +kernel
theorem dX9_shortens_14 : decode cX9_shortens 14 = .ok (.iaload, 1) := by decide +kernel
theorem dX9_shortens_15 : decode cX9_shortens 15 = .ok (.aload_n 0, 1) := by decide +kernel
theorem dX9_shortens_16 : decode cX9_shortens 16 = .ok (.getfield 7, 3) := by decide +kernel
theorem dX9_shortens_19 : decode cX9_shortens 19 = .ok (.iconst 1, 1) := by decide +kernel
theorem dX9_shortens_20 : decode cX9_shortens 20 = .ok (.iaload, 1) := by decide +kernel
theorem dX9_shortens_21 : decode cX9_shortens 21 = .ok (.iconst 1, 1) := by decide +kernel
theorem dX9_shortens_22 : decode cX9_shortens 22 = .ok (.iadd, 1) := by decide +kernel
theorem dX9_shortens_23 : decode cX9_shortens 23 = .ok (.if_icmp .le 14, 3) := by decide +kernel
theorem dX9_shortens_26 : decode cX9_shortens 26 = .ok (.aload_n 0, 1) := by decide +kernel
theorem dX9_shortens_27 : decode cX9_shortens 27 = .ok (.getfield 7, 3) := by decide +kernel
theorem dX9_shortens_30 : decode cX9_shortens 30 = .ok (.iconst 1, 1) := by decide +kernel
theorem dX9_shortens_31 : decode cX9_shortens 31 = .ok (.iaload, 1) := by decide +kernel
theorem dX9_shortens_32 : decode cX9_shortens 32 = .ok (.iconst 1, 1) := by decide +kernel
theorem dX9_shortens_33 : decode cX9_shortens 33 = .ok (.iadd, 1) := by decide +kernel
theorem dX9_shortens_34 : decode cX9_shortens 34 = .ok (.goto 11, 3) := by decide +kernel
theorem dX9_shortens_37 : decode cX9_shortens 37 = .ok (.aload_n 0, 1) := by decide +kernel
theorem dX9_shortens_38 : decode cX9_shortens 38 = .ok (.getfield 7, 3) := by decide +kernel
theorem dX9_shortens_41 : decode cX9_shortens 41 = .ok (.iload_n 1, 1) := by decide +kernel
theorem dX9_shortens_42 : decode cX9_shortens 42 = .ok (.iconst 4, 1) := by decide +kernel
theorem dX9_shortens_43 : decode cX9_shortens 43 = .ok (.iadd, 1) := by decide +kernel
theorem dX9_shortens_44 : decode cX9_shortens 44 = .ok (.iaload, 1) := by decide +kernel
theorem dX9_shortens_45 : decode cX9_shortens 45 = .ok (.iastore, 1) := by decide +kernel
theorem dX9_shortens_46 : decode cX9_shortens 46 = .ok (.return_, 1) := by decide +kernel
theorem dX9_hears_0 : decode cX9_hears 0 = .ok (.aload_n 0, 1) := by decide +kernel
theorem dX9_hears_1 : decode cX9_hears 1 = .ok (.iload_n 1, 1) := by decide +kernel
theorem dX9_hears_2 : decode cX9_hears 2 = .ok (.invokevirtual 59, 3) := by decide +kernel
theorem dX9_hears_5 : decode cX9_hears 5 = .ok (.ifCond .eq 12, 3) := by decide +kernel
theorem dX9_hears_8 : decode cX9_hears 8 = .ok (.aload_n 0, 1) := by decide +kernel
theorem dX9_hears_9 : decode cX9_hears 9 = .ok (.iload_n 1, 1) := by decide +kernel
theorem dX9_hears_10 : decode cX9_hears 10 = .ok (.iload_n 2, 1) := by decide +kernel
theorem dX9_hears_11 : decode cX9_hears 11 = .ok (.invokevirtual 79, 3) := by decide +kernel
theorem dX9_hears_14 : decode cX9_hears 14 = .ok (.ifCond .eq 4, 3) := by decide +kernel
theorem dX9_hears_17 : decode cX9_hears 17 = .ok (.return_, 1) := by decide +kernel
theorem dX9_hears_18 : decode cX9_hears 18 = .ok (.aload_n 0, 1) := by decide +kernel
theorem dX9_hears_19 : decode cX9_hears 19 = .ok (.iload_n 1, 1) := by decide +kernel
theorem dX9_hears_20 : decode cX9_hears 20 = .ok (.invokevirtual 70, 3) := by decide +kernel
theorem dX9_hears_23 : decode cX9_hears 23 = .ok (.iconst 1, 1) := by decide +kernel
theorem dX9_hears_24 : decode cX9_hears 24 = .ok (.isub, 1) := by decide +kernel
theorem dX9_hears_25 : decode cX9_hears 25 = .ok (.istore_n 3, 1) := by decide +kernel
theorem dX9_hears_26 : decode cX9_hears 26 = .ok (.iload_n 3, 1) := by decide +kernel
theorem dX9_hears_27 : decode cX9_hears 27 = .ok (.ifCond .lt 28, 3) := by decide +kernel
theorem dX9_hears_30 : decode cX9_hears 30 = .ok (.aload_n 0, 1) := by decide +kernel
theorem dX9_hears_31 : decode cX9_hears 31 = .ok (.iload_n 1, 1) := by decide +kernel
theorem dX9_hears_32 : decode cX9_hears 32 = .ok (.iload_n 3, 1) := by decide +kernel
theorem dX9_hears_33 : decode cX9_hears 33 = .ok (.invokestatic 67, 3) := by decide +kernel
theorem dX9_hears_36 : decode cX9_hears 36 = .ok (.iload_n 2, 1) := by decide +kernel
theorem dX9_hears_37 : decode cX9_hears 37 = .ok (.invokevirtual 76, 3) := by decide +kernel
theorem dX9_hears_40 : decode cX9_hears 40 = .ok (.ifCond .eq 9, 3) := by decide +kernel
theorem dX9_hears_43 : decode cX9_hears 43 = .ok (.aload_n 0, 1) := by decide +kernel
theorem dX9_hears_44 : decode cX9_hears 44 = .ok (.iload_n 1, 1) := by decide +kernel
theorem dX9_hears_45 : decode cX9_hears 45 = .ok (.iload_n 3, 1) := by decide +kernel
theorem dX9_hears_46 : decode cX9_hears 46 = .ok (.invokevirtual 82, 3) := by decide +kernel
theorem dX9_hears_49 : decode cX9_hears 49 = .ok (.iinc 3 (-1), 3) := by decide +kernel
theorem dX9_hears_52 : decode cX9_hears 52 = .ok (.goto (-26), 3) := by decide +kernel
theorem dX9_hears_55 : decode cX9_hears 55 = .ok (.aload_n 0, 1) := by decide +kernel
theorem dX9_hears_56 : decode cX9_hears 56 = .ok (.iload_n 1, 1) := by decide +kernel
theorem dX9_hears_57 : decode cX9_hears 57 = .ok (.invokevirtual 70, 3) := by decide +kernel
theorem dX9_hears_60 : decode cX9_hears 60 = .ok (.bipush 6, 2) := by decide +kernel
theorem dX9_hears_62 : decode cX9_hears 62 = .ok (.if_icmp .ne 9, 3) := by decide +kernel
theorem dX9_hears_65 : decode cX9_hears 65 = .ok (.aload_n 0, 1) := by decide +kernel
theorem dX9_hears_66 : decode cX9_hears 66 = .ok (.iload_n 1, 1) := by decide +kernel
theorem dX9_hears_67 : decode cX9_hears 67 = .ok (.iconst 0, 1) := by decide +kernel
theorem dX9_hears_68 : decode cX9_hears 68 = .ok (.invokevirtual 82, 3) := by decide +kernel
theorem dX9_hears_71 : decode cX9_hears 71 = .ok (.iload_n 1, 1) := by decide +kernel
theorem dX9_hears_72 : decode cX9_hears 72 = .ok (.aload_n 0, 1) := by decide +kernel
theorem dX9_hears_73 : decode cX9_hears 73 = .ok (.iload_n 1, 1) := by decide +kernel
theorem dX9_hears_74 : decode cX9_hears 74 = .ok (.invokevirtual 70, 3) := by decide +kernel
theorem dX9_hears_77 : decode cX9_hears 77 = .ok (.invokestatic 67, 3) := by decide +kernel
theorem dX9_hears_80 : decode cX9_hears 80 = .ok (.istore_n 3, 1) := by decide +kernel
theorem dX9_hears_81 : decode cX9_hears 81 = .ok (.iconst 0, 1) := by decide +kernel
theorem dX9_hears_82 : decode cX9_hears 82 = .ok (.istore 4, 2) := by decide +kernel
theorem dX9_hears_84 : decode cX9_hears 84 = .ok (.iload 4, 2) := by decide +kernel
theorem dX9_hears_86 : decode cX9_hears 86 = .ok (.iconst 4, 1) := by decide +kernel
theorem dX9_hears_87 : decode cX9_hears 87 = .ok (.if_icmp .ge 27, 3) := by decide +kernel
theorem dX9_hears_90 : decode cX9_hears 90 = .ok (.aload_n 0, 1) := by decide +kernel
theorem dX9_hears_91 : decode cX9_hears 91 = .ok (.getfield 7, 3) := by decide +kernel
theorem dX9_hears_94 : decode cX9_hears 94 = .ok (.iload_n 3, 1) := by decide +kernel
theorem dX9_hears_95 : decode cX9_hears 95 = .ok (.iload 4, 2) := by decide +kernel
theorem dX9_hears_97 : decode cX9_hears 97 = .ok (.iadd, 1) := by decide +kernel
theorem dX9_hears_98 : decode cX9_hears 98 = .ok (.aload_n 0, 1) := by decide +kernel
theorem dX9_hears_99 : decode cX9_hears 99 = .ok (.getfield 7, 3) := by decide +kernel
theorem dX9_hears_102 : decode cX9_hears 102 = .ok (.iload_n 2, 1) := by decide +kernel
theorem dX9_hears_103 : decode cX9_hears 103 = .ok (.iload 4, 2) := by decide +kernel
theorem dX9_hears_105 : decode cX9_hears 105 = .ok (.iadd, 1) := by decide +kernel
theorem dX9_hears_106 : decode cX9_hears 106 = .ok (.iaload, 1) := by decide +kernel
theorem dX9_hears_107 : decode cX9_hears 107 = .ok (.iastore, 1) := by decide +kernel
theorem dX9_hears_108 : decode cX9_hears 108 = .ok (.iinc 4 1, 3) := by decide +kernel
theorem dX9_hears_111 : decode cX9_hears 111 = .ok (.goto (-27), 3) := by decide +kernel
theorem dX9_hears_114 : decode cX9_hears 114 = .ok (.aload_n 0, 1) := by decide +kernel
theorem dX9_hears_115 : decode cX9_hears 115 = .ok (.getfield 7, 3) := by decide +kernel
theorem dX9_hears_118 : decode cX9_hears 118 = .ok (.iload_n 3, 1) := by decide +kernel
theorem dX9_hears_119 : decode cX9_hears 119 = .ok (.iconst 4, 1) := by decide +kernel
theorem dX9_hears_120 : decode cX9_hears 120 = .ok (.iadd, 1) := by decide +kernel
theorem dX9_hears_121 : decode cX9_hears 121 = .ok (.aload_n 0, 1) := by decide +kernel
theorem dX9_hears_122 : decode cX9_hears 122 = .ok (.getfield 7, 3) := by decide +kernel
theorem dX9_hears_125 : decode cX9_hears 125 = .ok (.iconst 1, 1) := by decide +kernel
theorem dX9_hears_126 : decode cX9_hears 126 = .ok (.iaload, 1) := by decide +kernel
theorem dX9_hears_127 : decode cX9_hears 127 = .ok (.aload_n 0, 1) := by decide +kernel
theorem dX9_hears_128 : decode cX9_hears 128 = .ok (.getfield 7, 3) := by decide +kernel
theorem dX9_hears_131 : decode cX9_hears 131 = .ok (.iload_n 2, 1) := by decide +kernel
theorem dX9_hears_132 : decode cX9_hears 132 = .ok (.iconst 3, 1) := by decide +kernel
theorem dX9_hears_133 : decode cX9_hears 133 = .ok (.iadd, 1) := by decide +kernel
theorem dX9_hears_134 : decode cX9_hears 134 = .ok (.iaload, 1) := by decide +kernel
theorem dX9_hears_135 : decode cX9_hears 135 = .ok (.iadd, 1) := by decide +kernel
theorem dX9_hears_136 : decode cX9_hears 136 = .ok (.iastore, 1) := by decide +kernel
theorem dX9_hears_137 : decode cX9_hears 137 = .ok (.aload_n 0, 1) := by decide +kernel
theorem dX9_hears_138 : decode cX9_hears 138 = .ok (.getfield 7, 3) := by decide +kernel
theorem dX9_hears_141 : decode cX9_hears 141 = .ok (.bipush 10, 2) := by decide +kernel
theorem dX9_hears_143 : decode cX9_hears 143 = .ok (.iconst 4, 1) := by decide +kernel
theorem dX9_hears_144 : decode cX9_hears 144 = .ok (.iload_n 1, 1) := by decide +kernel
theorem dX9_hears_145 : decode cX9_hears 145 = .ok (.imul, 1) := by decide +kernel
theorem dX9_hears_146 : decode cX9_hears 146 = .ok (.iadd, 1) := by decide +kernel
theorem dX9_hears_147 : decode cX9_hears 147 = .ok (.iconst 3, 1) := by decide +kernel
theorem dX9_hears_148 : decode cX9_hears 148 = .ok (.iadd, 1) := by decide +kernel
theorem dX9_hears_149 : decode cX9_hears 149 = .ok (.dup2, 1) := by decide +kernel
theorem dX9_hears_150 : decode cX9_hears 150 = .ok (.iaload, 1) := by decide +kernel
theorem dX9_hears_151 : decode cX9_hears 151 = .ok (.iconst 1, 1) := by decide +kernel
theorem dX9_hears_152 : decode cX9_hears 152 = .ok (.iadd, 1) := by decide +kernel
theorem dX9_hears_153 : decode cX9_hears 153 = .ok (.iastore, 1) := by decide +kernel
theorem dX9_hears_154 : decode cX9_hears 154 = .ok (.iconst 0, 1) := by decide +kernel
theorem dX9_hears_155 : decode cX9_hears 155 = .ok (.istore 4, 2) := by decide +kernel
theorem dX9_hears_157 : decode cX9_hears 157 = .ok (.iload 4, 2) := by decide +kernel
theorem dX9_hears_159 : decode cX9_hears 159 = .ok (.aload_n 0, 1) := by decide +kernel
theorem dX9_hears_160 : decode cX9_hears 160 = .ok (.iload_n 1, 1) := by decide +kernel
theorem dX9_hears_161 : decode cX9_hears 161 = .ok (.invokevirtual 70, 3) := by decide +kernel
theorem dX9_hears_164 : decode cX9_hears 164 = .ok (.if_icmp .ge 60, 3) := by decide +kernel
theorem dX9_hears_167 : decode cX9_hears 167 = .ok (.aload_n 0, 1) := by decide +kernel
theorem dX9_hears_168 : decode cX9_hears 168 = .ok (.getfield 7, 3) := by decide +kernel
theorem dX9_hears_171 : decode cX9_hears 171 = .ok (.iload_n 2, 1) := by decide +kernel
theorem dX9_hears_172 : decode cX9_hears 172 = .ok (.bipush 6, 2) := by decide +kernel
theorem dX9_hears_174 : decode cX9_hears 174 = .ok (.iadd, 1) := by decide +kernel
theorem dX9_hears_175 : decode cX9_hears 175 = .ok (.iaload, 1) := by decide +kernel
theorem dX9_hears_176 : decode cX9_hears 176 = .ok (.iconst 1, 1) := by decide +kernel
theorem dX9_hears_177 : decode cX9_hears 177 = .ok (.if_icmp .ne 47, 3) := by decide +kernel
theorem dX9_hears_180 : decode cX9_hears 180 = .ok (.aload_n 0, 1) := by decide +kernel
theorem dX9_hears_181 : decode cX9_hears 181 = .ok (.iload_n 1, 1) := by decide +kernel
theorem dX9_hears_182 : decode cX9_hears 182 = .ok (.iload 4, 2) := by decide +kernel
theorem dX9_hears_184 : decode cX9_hears 184 = .ok (.invokestatic 67, 3) := by decide +kernel
theorem dX9_hears_187 : decode cX9_hears 187 = .ok (.iload_n 2, 1) := by decide +kernel
theorem dX9_hears_188 : decode cX9_hears 188 = .ok (.invokevirtual 51, 3) := by decide +kernel
theorem dX9_hears_191 : decode cX9_hears 191 = .ok (.ifCond .eq 27, 3) := by decide +kernel
theorem dX9_hears_194 : decode cX9_hears 194 = .ok (.aload_n 0, 1) := by decide +kernel
theorem dX9_hears_195 : decode cX9_hears 195 = .ok (.iload_n 1, 1) := by decide +kernel
theorem dX9_hears_196 : decode cX9_hears 196 = .ok (.iload 4, 2) := by decide +kernel
theorem dX9_hears_198 : decode cX9_hears 198 = .ok (.invokestatic 67, 3) := by decide +kernel
theorem dX9_hears_201 : decode cX9_hears 201 = .ok (.iload_n 2, 1) := by decide +kernel
theorem dX9_hears_202 : decode cX9_hears 202 = .ok (.invokevirtual 76, 3) := by decide +kernel
theorem dX9_hears_205 : decode cX9_hears 205 = .ok (.ifCond .ne 13, 3) := by decide +kernel
theorem dX9_hears_208 : decode cX9_hears 208 = .ok (.aload_n 0, 1) := by decide +kernel
theorem dX9_hears_209 : decode cX9_hears 209 = .ok (.iload_n 1, 1) := by decide +kernel
theorem dX9_hears_210 : decode cX9_hears 210 = .ok (.iload 4, 2) := by decide +kernel
theorem dX9_hears_212 : decode cX9_hears 212 = .ok (.invokestatic 67, 3) := by decide +kernel
theorem dX9_hears_215 : decode cX9_hears 215 = .ok (.invokevirtual 86, 3) := by decide +kernel
theorem dX9_hears_218 : decode cX9_hears 218 = .ok (.iinc 4 1, 3) := by decide +kernel
theorem dX9_hears_221 : decode cX9_hears 221 = .ok (.goto (-64), 3) := by decide +kernel
theorem dX9_hears_224 : decode cX9_hears 224 = .ok (.return_, 1) := by decide +kernel
theorem dX9_says_0 : decode cX9_says 0 = .ok (.iconst 0, 1) := by decide +kernel
theorem dX9_says_1 : decode cX9_says 1 = .ok (.istore_n 3, 1) := by decide +kernel
theorem dX9_says_2 : decode cX9_says 2 = .ok (.iload_n 3, 1) := by decide +kernel
theorem dX9_says_3 : decode cX9_says 3 = .ok (.aload_n 0, 1) := by decide +kernel
theorem dX9_says_4 : decode cX9_says 4 = .ok (.getfield 7, 3) := by decide +kernel
theorem dX9_says_7 : decode cX9_says 7 = .ok (.iconst 0, 1) := by decide +kernel
theorem dX9_says_8 : decode cX9_says 8 = .ok (.iaload, 1) := by decide +kernel
theorem dX9_says_9 : decode cX9_says 9 = .ok (.if_icmp .ge 20, 3) := by decide +kernel
theorem dX9_says_12 : decode cX9_says 12 = .ok (.iload_n 3, 1) := by decide +kernel
theorem dX9_says_13 : decode cX9_says 13 = .ok (.iload_n 1, 1) := by decide +kernel
theorem dX9_says_14 : decode cX9_says 14 = .ok (.if_icmp .eq 9, 3) := by decide +kernel
theorem dX9_says_17 : decode cX9_says 17 = .ok (.aload_n 0, 1) := by decide +kernel
theorem dX9_says_18 : decode cX9_says 18 = .ok (.iload_n 3, 1) := by decide +kernel
theorem dX9_says_19 : decode cX9_says 19 = .ok (.iload_n 2, 1) := by decide +kernel
theorem dX9_says_20 : decode cX9_says 20 = .ok (.invokevirtual 90, 3) := by decide +kernel
theorem dX9_says_23 : decode cX9_says 23 = .ok (.iinc 3 1, 3) := by decide +kernel
theorem dX9_says_26 : decode cX9_says 26 = .ok (.goto (-24), 3) := by decide +kernel
theorem dX9_says_29 : decode cX9_says 29 = .ok (.aload_n 0, 1) := by decide +kernel
theorem dX9_says_30 : decode cX9_says 30 = .ok (.getfield 7, 3) := by decide +kernel
theorem dX9_says_33 : decode cX9_says 33 = .ok (.iconst 2, 1) := by decide +kernel
theorem dX9_says_34 : decode cX9_says 34 = .ok (.dup2, 1) := by decide +kernel
theorem dX9_says_35 : decode cX9_says 35 = .ok (.iaload, 1) := by decide +kernel
theorem dX9_says_36 : decode cX9_says 36 = .ok (.iconst 1, 1) := by decide +kernel
theorem dX9_says_37 : decode cX9_says 37 = .ok (.iadd, 1) := by decide +kernel
theorem dX9_says_38 : decode cX9_says 38 = .ok (.iastore, 1) := by decide +kernel
theorem dX9_says_39 : decode cX9_says 39 = .ok (.return_, 1) := by decide +kernel
theorem dX9_canHost_0 : decode cX9_canHost 0 = .ok (.aload_n 0, 1) := by decide +kernel
theorem dX9_canHost_1 : decode cX9_canHost 1 = .ok (.getfield 7, 3) := by decide +kernel
theorem dX9_canHost_4 : decode cX9_canHost 4 = .ok (.iconst 0, 1) := by decide +kernel
theorem dX9_canHost_5 : decode cX9_canHost 5 = .ok (.iaload, 1) := by decide +kernel
theorem dX9_canHost_6 : decode cX9_canHost 6 = .ok (.bipush 6, 2) := by decide +kernel
theorem dX9_canHost_8 : decode cX9_canHost 8 = .ok (.if_icmp .ne 8, 3) := by decide +kernel
theorem dX9_canHost_11 : decode cX9_canHost 11 = .ok (.bipush (-4), 2) := by decide +kernel
theorem dX9_canHost_13 : decode cX9_canHost 13 = .ok (.goto 4, 3) := by decide +kernel
theorem dX9_canHost_16 : decode cX9_canHost 16 = .ok (.iconst 0, 1) := by decide +kernel
theorem dX9_canHost_17 : decode cX9_canHost 17 = .ok (.ireturn, 1) := by decide +kernel
theorem dX9_hostNow_0 : decode cX9_hostNow 0 = .ok (.aload_n 0, 1) := by decide +kernel
theorem dX9_hostNow_1 : decode cX9_hostNow 1 = .ok (.getfield 7, 3) := by decide +kernel
theorem dX9_hostNow_4 : decode cX9_hostNow 4 = .ok (.iconst 0, 1) := by decide +kernel
theorem dX9_hostNow_5 : decode cX9_hostNow 5 = .ok (.iaload, 1) := by decide +kernel
theorem dX9_hostNow_6 : decode cX9_hostNow 6 = .ok (.istore_n 1, 1) := by decide +kernel
theorem dX9_hostNow_7 : decode cX9_hostNow 7 = .ok (.aload_n 0, 1) := by decide +kernel
theorem dX9_hostNow_8 : decode cX9_hostNow 8 = .ok (.getfield 7, 3) := by decide +kernel
theorem dX9_hostNow_11 : decode cX9_hostNow 11 = .ok (.bipush 10, 2) := by decide +kernel
theorem dX9_hostNow_13 : decode cX9_hostNow 13 = .ok (.iconst 4, 1) := by decide +kernel
theorem dX9_hostNow_14 : decode cX9_hostNow 14 = .ok (.iload_n 1, 1) := by decide +kernel
theorem dX9_hostNow_15 : decode cX9_hostNow 15 = .ok (.imul, 1) := by decide +kernel
theorem dX9_hostNow_16 : decode cX9_hostNow 16 = .ok (.iadd, 1) := by decide +kernel
theorem dX9_hostNow_17 : decode cX9_hostNow 17 = .ok (.iconst 1, 1) := by decide +kernel
theorem dX9_hostNow_18 : decode cX9_hostNow 18 = .ok (.iastore, 1) := by decide +kernel
theorem dX9_hostNow_19 : decode cX9_hostNow 19 = .ok (.aload_n 0, 1) := by decide +kernel
theorem dX9_hostNow_20 : decode cX9_hostNow 20 = .ok (.getfield 7, 3) := by decide +kernel
theorem dX9_hostNow_23 : decode cX9_hostNow 23 = .ok (.bipush 10, 2) := by decide +kernel
theorem dX9_hostNow_25 : decode cX9_hostNow 25 = .ok (.iconst 4, 1) := by decide +kernel
theorem dX9_hostNow_26 : decode cX9_hostNow 26 = .ok (.iload_n 1, 1) := by decide +kernel
theorem dX9_hostNow_27 : decode cX9_hostNow 27 = .ok (.imul, 1) := by decide +kernel
theorem dX9_hostNow_28 : decode cX9_hostNow 28 = .ok (.iadd, 1) := by decide +kernel
theorem dX9_hostNow_29 : decode cX9_hostNow 29 = .ok (.iconst 1, 1) := by decide +kernel
theorem dX9_hostNow_30 : decode cX9_hostNow 30 = .ok (.iadd, 1) := by decide +kernel
theorem dX9_hostNow_31 : decode cX9_hostNow 31 = .ok (.iconst (-1), 1) := by decide +kernel
theorem dX9_hostNow_32 : decode cX9_hostNow 32 = .ok (.iastore, 1) := by decide +kernel
theorem dX9_hostNow_33 : decode cX9_hostNow 33 = .ok (.aload_n 0, 1) := by decide +kernel
theorem dX9_hostNow_34 : decode cX9_hostNow 34 = .ok (.getfield 7, 3) := by decide +kernel
theorem dX9_hostNow_37 : decode cX9_hostNow 37 = .ok (.bipush 10, 2) := by decide +kernel
theorem dX9_hostNow_39 : decode cX9_hostNow 39 = .ok (.iconst 4, 1) := by decide +kernel
theorem dX9_hostNow_40 : decode cX9_hostNow 40 = .ok (.iload_n 1, 1) := by decide +kernel
theorem dX9_hostNow_41 : decode cX9_hostNow 41 = .ok (.imul, 1) := by decide +kernel
theorem dX9_hostNow_42 : decode cX9_hostNow 42 = .ok (.iadd, 1) := by decide +kernel
theorem dX9_hostNow_43 : decode cX9_hostNow 43 = .ok (.iconst 2, 1) := by decide +kernel
theorem dX9_hostNow_44 : decode cX9_hostNow 44 = .ok (.iadd, 1) := by decide +kernel
theorem dX9_hostNow_45 : decode cX9_hostNow 45 = .ok (.iconst 0, 1) := by decide +kernel
theorem dX9_hostNow_46 : decode cX9_hostNow 46 = .ok (.iastore, 1) := by decide +kernel
theorem dX9_hostNow_47 : decode cX9_hostNow 47 = .ok (.aload_n 0, 1) := by decide +kernel
theorem dX9_hostNow_48 : decode cX9_hostNow 48 = .ok (.getfield 7, 3) := by decide +kernel
theorem dX9_hostNow_51 : decode cX9_hostNow 51 = .ok (.bipush 10, 2) := by decide +kernel
theorem dX9_hostNow_53 : decode cX9_hostNow 53 = .ok (.iconst 4, 1) := by decide +kernel
theorem dX9_hostNow_54 : decode cX9_hostNow 54 = .ok (.iload_n 1, 1) := by decide +kernel
theorem dX9_hostNow_55 : decode cX9_hostNow 55 = .ok (.imul, 1) := by decide +kernel
theorem dX9_hostNow_56 : decode cX9_hostNow 56 = .ok (.iadd, 1) := by decide +kernel
theorem dX9_hostNow_57 : decode cX9_hostNow 57 = .ok (.iconst 3, 1) := by decide +kernel
theorem dX9_hostNow_58 : decode cX9_hostNow 58 = .ok (.iadd, 1) := by decide +kernel
theorem dX9_hostNow_59 : decode cX9_hostNow 59 = .ok (.iconst 0, 1) := by decide +kernel
theorem dX9_hostNow_60 : decode cX9_hostNow 60 = .ok (.iastore, 1) := by decide +kernel
theorem dX9_hostNow_61 : decode cX9_hostNow 61 = .ok (.aload_n 0, 1) := by decide +kernel
theorem dX9_hostNow_62 : decode cX9_hostNow 62 = .ok (.getfield 7, 3) := by decide +kernel
theorem dX9_hostNow_65 : decode cX9_hostNow 65 = .ok (.iconst 0, 1) := by decide +kernel
theorem dX9_hostNow_66 : decode cX9_hostNow 66 = .ok (.dup2, 1) := by decide +kernel
theorem dX9_hostNow_67 : decode cX9_hostNow 67 = .ok (.iaload, 1) := by decide +kernel
theorem dX9_hostNow_68 : decode cX9_hostNow 68 = .ok (.iconst 1, 1) := by decide +kernel
theorem dX9_hostNow_69 : decode cX9_hostNow 69 = .ok (.iadd, 1) := by decide +kernel
theorem dX9_hostNow_70 : decode cX9_hostNow 70 = .ok (.iastore, 1) := by decide +kernel
theorem dX9_hostNow_71 : decode cX9_hostNow 71 = .ok (.iload_n 1, 1) := by decide +kernel
theorem dX9_hostNow_72 : decode cX9_hostNow 72 = .ok (.ireturn, 1) := by decide +kernel
theorem dX9_host_0 : decode cX9_host 0 = .ok (.aload_n 0, 1) := by decide +kernel
theorem dX9_host_1 : decode cX9_host 1 = .ok (.invokevirtual 93, 3) := by decide +kernel
theorem dX9_host_4 : decode cX9_host 4 = .ok (.istore_n 1, 1) := by decide +kernel
theorem dX9_host_5 : decode cX9_host 5 = .ok (.iload_n 1, 1) := by decide +kernel
theorem dX9_host_6 : decode cX9_host 6 = .ok (.ifCond .ge 9, 3) := by decide +kernel
theorem dX9_host_9 : decode cX9_host 9 = .ok (.aload_n 0, 1) := by decide +kernel
theorem dX9_host_10 : decode cX9_host 10 = .ok (.iload_n 1, 1) := by decide +kernel
theorem dX9_host_11 : decode cX9_host 11 = .ok (.invokevirtual 97, 3) := by decide +kernel
theorem dX9_host_14 : decode cX9_host 14 = .ok (.ireturn, 1) := by decide +kernel
theorem dX9_host_15 : decode cX9_host 15 = .ok (.aload_n 0, 1) := by decide +kernel
theorem dX9_host_16 : decode cX9_host 16 = .ok (.invokevirtual 100, 3) := by decide +kernel
theorem dX9_host_19 : decode cX9_host 19 = .ok (.aload_n 0, 1) := by decide +kernel
theorem dX9_host_20 : decode cX9_host 20 = .ok (.invokevirtual 103, 3) := by decide +kernel
theorem dX9_host_23 : decode cX9_host 23 = .ok (.ireturn, 1) := by decide +kernel
theorem dX9_isName_0 : decode cX9_isName 0 = .ok (.iload_n 0, 1) := by decide +kernel
theorem dX9_isName_1 : decode cX9_isName 1 = .ok (.i2l, 1) := by decide +kernel
theorem dX9_isName_2 : decode cX9_isName 2 = .ok (.lconst 0, 1) := by decide +kernel
theorem dX9_isName_3 : decode cX9_isName 3 = .ok (.ldc2_w 106, 3) := by decide +kernel
theorem dX9_isName_6 : decode cX9_isName 6 = .ok (.invokestatic 47, 3) := by decide +kernel
theorem dX9_isName_9 : decode cX9_isName 9 = .ok (.ifCond .eq 19, 3) := by decide +kernel
theorem dX9_isName_12 : decode cX9_isName 12 = .ok (.iload_n 1, 1) := by decide +kernel
theorem dX9_isName_13 : decode cX9_isName 13 = .ok (.i2l, 1) := by decide +kernel
theorem dX9_isName_14 : decode cX9_isName 14 = .ok (.lconst 0, 1) := by decide +kernel
theorem dX9_isName_15 : decode cX9_isName 15 = .ok (.ldc2_w 108, 3) := by decide +kernel
theorem dX9_isName_18 : decode cX9_isName 18 = .ok (.invokestatic 47, 3) := by decide +kernel
theorem dX9_isName_21 : decode cX9_isName 21 = .ok (.ifCond .eq 7, 3) := by decide +kernel
theorem dX9_isName_24 : decode cX9_isName 24 = .ok (.iconst 1, 1) := by decide +kernel
theorem dX9_isName_25 : decode cX9_isName 25 = .ok (.goto 4, 3) := by decide +kernel
theorem dX9_isName_28 : decode cX9_isName 28 = .ok (.iconst 0, 1) := by decide +kernel
theorem dX9_isName_29 : decode cX9_isName 29 = .ok (.ireturn, 1) := by decide +kernel
theorem dX9_canRecord_0 : decode cX9_canRecord 0 = .ok (.aload_n 0, 1) := by decide +kernel
theorem dX9_canRecord_1 : decode cX9_canRecord 1 = .ok (.iload_n 1, 1) := by decide +kernel
theorem dX9_canRecord_2 : decode cX9_canRecord 2 = .ok (.invokevirtual 110, 3) := by decide +kernel
theorem dX9_canRecord_5 : decode cX9_canRecord 5 = .ok (.ifCond .eq 39, 3) := by decide +kernel
theorem dX9_canRecord_8 : decode cX9_canRecord 8 = .ok (.iload_n 2, 1) := by decide +kernel
theorem dX9_canRecord_9 : decode cX9_canRecord 9 = .ok (.iload_n 3, 1) := by decide +kernel
theorem dX9_canRecord_10 : decode cX9_canRecord 10 = .ok (.invokestatic 113, 3) := by decide +kernel
theorem dX9_canRecord_13 : decode cX9_canRecord 13 = .ok (.ifCond .eq 31, 3) := by decide +kernel
theorem dX9_canRecord_16 : decode cX9_canRecord 16 = .ok (.iload 4, 2) := by decide +kernel
theorem dX9_canRecord_18 : decode cX9_canRecord 18 = .ok (.i2l, 1) := by decide +kernel
theorem dX9_canRecord_19 : decode cX9_canRecord 19 = .ok (.lconst 0, 1) := by decide +kernel
theorem dX9_canRecord_20 : decode cX9_canRecord 20 = .ok (.ldc2_w 116, 3) := by decide +kernel
theorem dX9_canRecord_23 : decode cX9_canRecord 23 = .ok (.invokestatic 47, 3) := by decide +kernel
theorem dX9_canRecord_26 : decode cX9_canRecord 26 = .ok (.ifCond .eq 18, 3) := by decide +kernel
theorem dX9_canRecord_29 : decode cX9_canRecord 29 = .ok (.iload 5, 2) := by decide +kernel
theorem dX9_canRecord_31 : decode cX9_canRecord 31 = .ok (.i2l, 1) := by decide +kernel
theorem dX9_canRecord_32 : decode cX9_canRecord 32 = .ok (.ldc2_w 118, 3) := by decide +kernel
theorem dX9_canRecord_35 : decode cX9_canRecord 35 = .ok (.ldc2_w 120, 3) := by decide +kernel
theorem dX9_canRecord_38 : decode cX9_canRecord 38 = .ok (.invokestatic 47, 3) := by decide +kernel
theorem dX9_canRecord_41 : decode cX9_canRecord 41 = .ok (.ifCond .ne 6, 3) := by decide +kernel
theorem dX9_canRecord_44 : decode cX9_canRecord 44 = .ok (.bipush (-2), 2) := by decide +kernel
theorem dX9_canRecord_46 : decode cX9_canRecord 46 = .ok (.ireturn, 1) := by decide +kernel
theorem dX9_canRecord_47 : decode cX9_canRecord 47 = .ok (.iconst 0, 1) := by decide +kernel
theorem dX9_canRecord_48 : decode cX9_canRecord 48 = .ok (.istore 6, 2) := by decide +kernel
theorem dX9_canRecord_50 : decode cX9_canRecord 50 = .ok (.iconst 0, 1) := by decide +kernel
theorem dX9_canRecord_51 : decode cX9_canRecord 51 = .ok (.istore 7, 2) := by decide +kernel
theorem dX9_canRecord_53 : decode cX9_canRecord 53 = .ok (.iload 7, 2) := by decide +kernel
theorem dX9_canRecord_55 : decode cX9_canRecord 55 = .ok (.aload_n 0, 1) := by decide +kernel
theorem dX9_canRecord_56 : decode cX9_canRecord 56 = .ok (.iload_n 1, 1) := by decide +kernel
theorem dX9_canRecord_57 : decode cX9_canRecord 57 = .ok (.invokevirtual 73, 3) := by decide +kernel
theorem dX9_canRecord_60 : decode cX9_canRecord 60 = .ok (.if_icmp .ge 55, 3) := by decide +kernel
theorem dX9_canRecord_63 : decode cX9_canRecord 63 = .ok (.iload 6, 2) := by decide +kernel
theorem dX9_canRecord_65 : decode cX9_canRecord 65 = .ok (.ifCond .ne 37, 3) := by decide +kernel
theorem dX9_canRecord_68 : decode cX9_canRecord 68 = .ok (.aload_n 0, 1) := by decide +kernel
theorem dX9_canRecord_69 : decode cX9_canRecord 69 = .ok (.getfield 7, 3) := by decide +kernel
theorem dX9_canRecord_72 : decode cX9_canRecord 72 = .ok (.iload_n 1, 1) := by decide +kernel
theorem dX9_canRecord_73 : decode cX9_canRecord 73 = .ok (.iload 7, 2) := by decide +kernel
theorem dX9_canRecord_75 : decode cX9_canRecord 75 = .ok (.invokestatic 55, 3) := by decide +kernel
theorem dX9_canRecord_78 : decode cX9_canRecord 78 = .ok (.iconst 0, 1) := by decide +kernel
theorem dX9_canRecord_79 : decode cX9_canRecord 79 = .ok (.iadd, 1) := by decide +kernel
theorem dX9_canRecord_80 : decode cX9_canRecord 80 = .ok (.iaload, 1) := by decide +kernel
theorem dX9_canRecord_81 : decode cX9_canRecord 81 = .ok (.iload_n 2, 1) := by decide +kernel
theorem dX9_canRecord_82 : decode cX9_canRecord 82 = .ok (.if_icmp .ne 24, 3) := by decide +kernel
theorem dX9_canRecord_85 : decode cX9_canRecord 85 = .ok (.aload_n 0, 1) := by decide +kernel
theorem dX9_canRecord_86 : decode cX9_canRecord 86 = .ok (.getfield 7, 3) := by decide +kernel
theorem dX9_canRecord_89 : decode cX9_canRecord 89 = .ok (.iload_n 1, 1) := by decide +kernel
theorem dX9_canRecord_90 : decode cX9_canRecord 90 = .ok (.iload 7, 2) := by decide +kernel
theorem dX9_canRecord_92 : decode cX9_canRecord 92 = .ok (.invokestatic 55, 3) := by decide +kernel
theorem dX9_canRecord_95 : decode cX9_canRecord 95 = .ok (.iconst 1, 1) := by decide +kernel
theorem dX9_canRecord_96 : decode cX9_canRecord 96 = .ok (.iadd, 1) := by decide +kernel
theorem dX9_canRecord_97 : decode cX9_canRecord 97 = .ok (.iaload, 1) := by decide +kernel
theorem dX9_canRecord_98 : decode cX9_canRecord 98 = .ok (.iload_n 3, 1) := by decide +kernel
theorem dX9_canRecord_99 : decode cX9_canRecord 99 = .ok (.if_icmp .ne 7, 3) := by decide +kernel
theorem dX9_canRecord_102 : decode cX9_canRecord 102 = .ok (.iconst 1, 1) := by decide +kernel
theorem dX9_canRecord_103 : decode cX9_canRecord 103 = .ok (.goto 4, 3) := by decide +kernel
theorem dX9_canRecord_106 : decode cX9_canRecord 106 = .ok (.iconst 0, 1) := by decide +kernel
theorem dX9_canRecord_107 : decode cX9_canRecord 107 = .ok (.istore 6, 2) := by decide +kernel
theorem dX9_canRecord_109 : decode cX9_canRecord 109 = .ok (.iinc 7 1, 3) := by decide +kernel
theorem dX9_canRecord_112 : decode cX9_canRecord 112 = .ok (.goto (-59), 3) := by decide +kernel
theorem dX9_canRecord_115 : decode cX9_canRecord 115 = .ok (.aload_n 0, 1) := by decide +kernel
theorem dX9_canRecord_116 : decode cX9_canRecord 116 = .ok (.iload_n 1, 1) := by decide +kernel
theorem dX9_canRecord_117 : decode cX9_canRecord 117 = .ok (.invokevirtual 59, 3) := by decide +kernel
theorem dX9_canRecord_120 : decode cX9_canRecord 120 = .ok (.ifCond .eq 8, 3) := by decide +kernel
theorem dX9_canRecord_123 : decode cX9_canRecord 123 = .ok (.iload 6, 2) := by decide +kernel
theorem dX9_canRecord_125 : decode cX9_canRecord 125 = .ok (.ifCond .eq 8, 3) := by decide +kernel
theorem dX9_canRecord_128 : decode cX9_canRecord 128 = .ok (.bipush (-3), 2) := by decide +kernel
theorem dX9_canRecord_130 : decode cX9_canRecord 130 = .ok (.goto 18, 3) := by decide +kernel
theorem dX9_canRecord_133 : decode cX9_canRecord 133 = .ok (.aload_n 0, 1) := by decide +kernel
theorem dX9_canRecord_134 : decode cX9_canRecord 134 = .ok (.iload_n 1, 1) := by decide +kernel
theorem dX9_canRecord_135 : decode cX9_canRecord 135 = .ok (.invokevirtual 73, 3) := by decide +kernel
theorem dX9_canRecord_138 : decode cX9_canRecord 138 = .ok (.iconst 5, 1) := by decide +kernel
theorem dX9_canRecord_139 : decode cX9_canRecord 139 = .ok (.if_icmp .ne 8, 3) := by decide +kernel
theorem dX9_canRecord_142 : decode cX9_canRecord 142 = .ok (.bipush (-4), 2) := by decide +kernel
theorem dX9_canRecord_144 : decode cX9_canRecord 144 = .ok (.goto 4, 3) := by decide +kernel
theorem dX9_canRecord_147 : decode cX9_canRecord 147 = .ok (.iconst 0, 1) := by decide +kernel
theorem dX9_canRecord_148 : decode cX9_canRecord 148 = .ok (.ireturn, 1) := by decide +kernel
theorem dX9_recordNow_0 : decode cX9_recordNow 0 = .ok (.aload_n 0, 1) := by decide +kernel
theorem dX9_recordNow_1 : decode cX9_recordNow 1 = .ok (.iload_n 1, 1) := by decide +kernel
theorem dX9_recordNow_2 : decode cX9_recordNow 2 = .ok (.invokevirtual 73, 3) := by decide +kernel
theorem dX9_recordNow_5 : decode cX9_recordNow 5 = .ok (.istore 7, 2) := by decide +kernel
theorem dX9_recordNow_7 : decode cX9_recordNow 7 = .ok (.iload_n 1, 1) := by decide +kernel
theorem dX9_recordNow_8 : decode cX9_recordNow 8 = .ok (.iload 7, 2) := by decide +kernel
theorem dX9_recordNow_10 : decode cX9_recordNow 10 = .ok (.invokestatic 55, 3) := by decide +kernel
theorem dX9_recordNow_13 : decode cX9_recordNow 13 = .ok (.istore 8, 2) := by decide +kernel
theorem dX9_recordNow_15 : decode cX9_recordNow 15 = .ok (.aload_n 0, 1) := by decide +kernel
theorem dX9_recordNow_16 : decode cX9_recordNow 16 = .ok (.getfield 7, 3) := by decide +kernel
theorem dX9_recordNow_19 : decode cX9_recordNow 19 = .ok (.iload 8, 2) := by decide +kernel
theorem dX9_recordNow_21 : decode cX9_recordNow 21 = .ok (.iconst 0, 1) := by decide +kernel
theorem dX9_recordNow_22 : decode cX9_recordNow 22 = .ok (.iadd, 1) := by decide +kernel
theorem dX9_recordNow_23 : decode cX9_recordNow 23 = .ok (.iload_n 2, 1) := by decide +kernel
theorem dX9_recordNow_24 : decode cX9_recordNow 24 = .ok (.iastore, 1) := by decide +kernel
theorem dX9_recordNow_25 : decode cX9_recordNow 25 = .ok (.aload_n 0, 1) := by decide +kernel
theorem dX9_recordNow_26 : decode cX9_recordNow 26 = .ok (.getfield 7, 3) := by decide +kernel
theorem dX9_recordNow_29 : decode cX9_recordNow 29 = .ok (.iload 8, 2) := by decide +kernel
theorem dX9_recordNow_31 : decode cX9_recordNow 31 = .ok (.iconst 1, 1) := by decide +kernel
theorem dX9_recordNow_32 : decode cX9_recordNow 32 = .ok (.iadd, 1) := by decide +kernel
theorem dX9_recordNow_33 : decode cX9_recordNow 33 = .ok (.iload_n 3, 1) := by decide +kernel
theorem dX9_recordNow_34 : decode cX9_recordNow 34 = .ok (.iastore, 1) := by decide +kernel
theorem dX9_recordNow_35 : decode cX9_recordNow 35 = .ok (.aload_n 0, 1) := by decide +kernel
theorem dX9_recordNow_36 : decode cX9_recordNow 36 = .ok (.getfield 7, 3) := by decide +kernel
theorem dX9_recordNow_39 : decode cX9_recordNow 39 = .ok (.iload 8, 2) := by decide +kernel
theorem dX9_recordNow_41 : decode cX9_recordNow 41 = .ok (.iconst 2, 1) := by decide +kernel
theorem dX9_recordNow_42 : decode cX9_recordNow 42 = .ok (.iadd, 1) := by decide +kernel
theorem dX9_recordNow_43 : decode cX9_recordNow 43 = .ok (.iload 4, 2) := by decide +kernel
theorem dX9_recordNow_45 : decode cX9_recordNow 45 = .ok (.iastore, 1) := by decide +kernel
theorem dX9_recordNow_46 : decode cX9_recordNow 46 = .ok (.aload_n 0, 1) := by decide +kernel
theorem dX9_recordNow_47 : decode cX9_recordNow 47 = .ok (.getfield 7, 3) := by decide +kernel
theorem dX9_recordNow_50 : decode cX9_recordNow 50 = .ok (.iload 8, 2) := by decide +kernel
theorem dX9_recordNow_52 : decode cX9_recordNow 52 = .ok (.iconst 3, 1) := by decide +kernel
theorem dX9_recordNow_53 : decode cX9_recordNow 53 = .ok (.iadd, 1) := by decide +kernel
theorem dX9_recordNow_54 : decode cX9_recordNow 54 = .ok (.iload 5, 2) := by decide +kernel
theorem dX9_recordNow_56 : decode cX9_recordNow 56 = .ok (.iastore, 1) := by decide +kernel
theorem dX9_recordNow_57 : decode cX9_recordNow 57 = .ok (.aload_n 0, 1) := by decide +kernel
theorem dX9_recordNow_58 : decode cX9_recordNow 58 = .ok (.getfield 7, 3) := by decide +kernel
theorem dX9_recordNow_61 : decode cX9_recordNow 61 = .ok (.iload 8, 2) := by decide +kernel
theorem dX9_recordNow_63 : decode cX9_recordNow 63 = .ok (.iconst 4, 1) := by decide +kernel
theorem dX9_recordNow_64 : decode cX9_recordNow 64 = .ok (.iadd, 1) := by decide +kernel
theorem dX9_recordNow_65 : decode cX9_recordNow 65 = .ok (.iload 6, 2) := by decide +kernel
theorem dX9_recordNow_67 : decode cX9_recordNow 67 = .ok (.ifCond .eq 7, 3) := by decide +kernel
theorem dX9_recordNow_70 : decode cX9_recordNow 70 = .ok (.iconst 0, 1) := by decide +kernel
theorem dX9_recordNow_71 : decode cX9_recordNow 71 = .ok (.goto 4, 3) := by decide +kernel
theorem dX9_recordNow_74 : decode cX9_recordNow 74 = .ok (.iconst 3, 1) := by decide +kernel
theorem dX9_recordNow_75 : decode cX9_recordNow 75 = .ok (.iastore, 1) := by decide +kernel
theorem dX9_recordNow_76 : decode cX9_recordNow 76 = .ok (.aload_n 0, 1) := by decide +kernel
theorem dX9_recordNow_77 : decode cX9_recordNow 77 = .ok (.getfield 7, 3) := by decide +kernel
theorem dX9_recordNow_80 : decode cX9_recordNow 80 = .ok (.iload 8, 2) := by decide +kernel
theorem dX9_recordNow_82 : decode cX9_recordNow 82 = .ok (.iconst 5, 1) := by decide +kernel
theorem dX9_recordNow_83 : decode cX9_recordNow 83 = .ok (.iadd, 1) := by decide +kernel
theorem dX9_recordNow_84 : decode cX9_recordNow 84 = .ok (.iconst 0, 1) := by decide +kernel
theorem dX9_recordNow_85 : decode cX9_recordNow 85 = .ok (.iastore, 1) := by decide +kernel
theorem dX9_recordNow_86 : decode cX9_recordNow 86 = .ok (.aload_n 0, 1) := by decide +kernel
theorem dX9_recordNow_87 : decode cX9_recordNow 87 = .ok (.getfield 7, 3) := by decide +kernel
theorem dX9_recordNow_90 : decode cX9_recordNow 90 = .ok (.iload 8, 2) := by decide +kernel
theorem dX9_recordNow_92 : decode cX9_recordNow 92 = .ok (.bipush 6, 2) := by decide +kernel
theorem dX9_recordNow_94 : decode cX9_recordNow 94 = .ok (.iadd, 1) := by decide +kernel
theorem dX9_recordNow_95 : decode cX9_recordNow 95 = .ok (.iload 6, 2) := by decide +kernel
theorem dX9_recordNow_97 : decode cX9_recordNow 97 = .ok (.ifCond .eq 7, 3) := by decide +kernel
theorem dX9_recordNow_100 : decode cX9_recordNow 100 = .ok (.iconst 1, 1) := by decide +kernel
theorem dX9_recordNow_101 : decode cX9_recordNow 101 = .ok (.goto 4, 3) := by decide +kernel
theorem dX9_recordNow_104 : decode cX9_recordNow 104 = .ok (.iconst 0, 1) := by decide +kernel
theorem dX9_recordNow_105 : decode cX9_recordNow 105 = .ok (.iastore, 1) := by decide +kernel
theorem dX9_recordNow_106 : decode cX9_recordNow 106 = .ok (.aload_n 0, 1) := by decide +kernel
theorem dX9_recordNow_107 : decode cX9_recordNow 107 = .ok (.getfield 7, 3) := by decide +kernel
theorem dX9_recordNow_110 : decode cX9_recordNow 110 = .ok (.bipush 10, 2) := by decide +kernel
theorem dX9_recordNow_112 : decode cX9_recordNow 112 = .ok (.iconst 4, 1) := by decide +kernel
theorem dX9_recordNow_113 : decode cX9_recordNow 113 = .ok (.iload_n 1, 1) := by decide +kernel
theorem dX9_recordNow_114 : decode cX9_recordNow 114 = .ok (.imul, 1) := by decide +kernel
theorem dX9_recordNow_115 : decode cX9_recordNow 115 = .ok (.iadd, 1) := by decide +kernel
theorem dX9_recordNow_116 : decode cX9_recordNow 116 = .ok (.iconst 2, 1) := by decide +kernel
theorem dX9_recordNow_117 : decode cX9_recordNow 117 = .ok (.iadd, 1) := by decide +kernel
theorem dX9_recordNow_118 : decode cX9_recordNow 118 = .ok (.dup2, 1) := by decide +kernel
theorem dX9_recordNow_119 : decode cX9_recordNow 119 = .ok (.iaload, 1) := by decide +kernel
theorem dX9_recordNow_120 : decode cX9_recordNow 120 = .ok (.iconst 1, 1) := by decide +kernel
theorem dX9_recordNow_121 : decode cX9_recordNow 121 = .ok (.iadd, 1) := by decide +kernel
theorem dX9_recordNow_122 : decode cX9_recordNow 122 = .ok (.iastore, 1) := by decide +kernel
theorem dX9_recordNow_123 : decode cX9_recordNow 123 = .ok (.iload 6, 2) := by decide +kernel
theorem dX9_recordNow_125 : decode cX9_recordNow 125 = .ok (.ifCond .ne 10, 3) := by decide +kernel
theorem dX9_recordNow_128 : decode cX9_recordNow 128 = .ok (.aload_n 0, 1) := by decide +kernel
theorem dX9_recordNow_129 : decode cX9_recordNow 129 = .ok (.iload_n 1, 1) := by decide +kernel
theorem dX9_recordNow_130 : decode cX9_recordNow 130 = .ok (.iload 8, 2) := by decide +kernel
theorem dX9_recordNow_132 : decode cX9_recordNow 132 = .ok (.invokevirtual 122, 3) := by decide +kernel
theorem dX9_recordNow_135 : decode cX9_recordNow 135 = .ok (.iload 7, 2) := by decide +kernel
theorem dX9_recordNow_137 : decode cX9_recordNow 137 = .ok (.ireturn, 1) := by decide +kernel
theorem dX9_claims_0 : decode cX9_claims 0 = .ok (.aload_n 0, 1) := by decide +kernel
theorem dX9_claims_1 : decode cX9_claims 1 = .ok (.iload_n 1, 1) := by decide +kernel
theorem dX9_claims_2 : decode cX9_claims 2 = .ok (.iload_n 2, 1) := by decide +kernel
theorem dX9_claims_3 : decode cX9_claims 3 = .ok (.iload_n 3, 1) := by decide +kernel
theorem dX9_claims_4 : decode cX9_claims 4 = .ok (.iload 4, 2) := by decide +kernel
theorem dX9_claims_6 : decode cX9_claims 6 = .ok (.iload 5, 2) := by decide +kernel
theorem dX9_claims_8 : decode cX9_claims 8 = .ok (.invokevirtual 125, 3) := by decide +kernel
theorem dX9_claims_11 : decode cX9_claims 11 = .ok (.istore 6, 2) := by decide +kernel
theorem dX9_claims_13 : decode cX9_claims 13 = .ok (.iload 6, 2) := by decide +kernel
theorem dX9_claims_15 : decode cX9_claims 15 = .ok (.ifCond .ge 10, 3) := by decide +kernel
theorem dX9_claims_18 : decode cX9_claims 18 = .ok (.aload_n 0, 1) := by decide +kernel
theorem dX9_claims_19 : decode cX9_claims 19 = .ok (.iload 6, 2) := by decide +kernel
theorem dX9_claims_21 : decode cX9_claims 21 = .ok (.invokevirtual 97, 3) := by decide +kernel
theorem dX9_claims_24 : decode cX9_claims 24 = .ok (.ireturn, 1) := by decide +kernel
theorem dX9_claims_25 : decode cX9_claims 25 = .ok (.aload_n 0, 1) := by decide +kernel
theorem dX9_claims_26 : decode cX9_claims 26 = .ok (.invokevirtual 100, 3) := by decide +kernel
theorem dX9_claims_29 : decode cX9_claims 29 = .ok (.aload_n 0, 1) := by decide +kernel
theorem dX9_claims_30 : decode cX9_claims 30 = .ok (.iload_n 1, 1) := by decide +kernel
theorem dX9_claims_31 : decode cX9_claims 31 = .ok (.iload_n 2, 1) := by decide +kernel
theorem dX9_claims_32 : decode cX9_claims 32 = .ok (.iload_n 3, 1) := by decide +kernel
theorem dX9_claims_33 : decode cX9_claims 33 = .ok (.iload 4, 2) := by decide +kernel
theorem dX9_claims_35 : decode cX9_claims 35 = .ok (.iload 5, 2) := by decide +kernel
theorem dX9_claims_37 : decode cX9_claims 37 = .ok (.iconst 1, 1) := by decide +kernel
theorem dX9_claims_38 : decode cX9_claims 38 = .ok (.invokevirtual 129, 3) := by decide +kernel
theorem dX9_claims_41 : decode cX9_claims 41 = .ok (.ireturn, 1) := by decide +kernel
theorem dX9_shares_0 : decode cX9_shares 0 = .ok (.aload_n 0, 1) := by decide +kernel
theorem dX9_shares_1 : decode cX9_shares 1 = .ok (.iload_n 1, 1) := by decide +kernel
theorem dX9_shares_2 : decode cX9_shares 2 = .ok (.iload_n 2, 1) := by decide +kernel
theorem dX9_shares_3 : decode cX9_shares 3 = .ok (.iload_n 3, 1) := by decide +kernel
theorem dX9_shares_4 : decode cX9_shares 4 = .ok (.iload 4, 2) := by decide +kernel
theorem dX9_shares_6 : decode cX9_shares 6 = .ok (.iload 5, 2) := by decide +kernel
theorem dX9_shares_8 : decode cX9_shares 8 = .ok (.invokevirtual 125, 3) := by decide +kernel
theorem dX9_shares_11 : decode cX9_shares 11 = .ok (.istore 6, 2) := by decide +kernel
theorem dX9_shares_13 : decode cX9_shares 13 = .ok (.iload 6, 2) := by decide +kernel
theorem dX9_shares_15 : decode cX9_shares 15 = .ok (.ifCond .ge 10, 3) := by decide +kernel
theorem dX9_shares_18 : decode cX9_shares 18 = .ok (.aload_n 0, 1) := by decide +kernel
theorem dX9_shares_19 : decode cX9_shares 19 = .ok (.iload 6, 2) := by decide +kernel
theorem dX9_shares_21 : decode cX9_shares 21 = .ok (.invokevirtual 97, 3) := by decide +kernel
theorem dX9_shares_24 : decode cX9_shares 24 = .ok (.ireturn, 1) := by decide +kernel
theorem dX9_shares_25 : decode cX9_shares 25 = .ok (.aload_n 0, 1) := by decide +kernel
theorem dX9_shares_26 : decode cX9_shares 26 = .ok (.invokevirtual 100, 3) := by decide +kernel
theorem dX9_shares_29 : decode cX9_shares 29 = .ok (.aload_n 0, 1) := by decide +kernel
theorem dX9_shares_30 : decode cX9_shares 30 = .ok (.iload_n 1, 1) := by decide +kernel
theorem dX9_shares_31 : decode cX9_shares 31 = .ok (.iload_n 2, 1) := by decide +kernel
theorem dX9_shares_32 : decode cX9_shares 32 = .ok (.iload_n 3, 1) := by decide +kernel
theorem dX9_shares_33 : decode cX9_shares 33 = .ok (.iload 4, 2) := by decide +kernel
theorem dX9_shares_35 : decode cX9_shares 35 = .ok (.iload 5, 2) := by decide +kernel
theorem dX9_shares_37 : decode cX9_shares 37 = .ok (.iconst 0, 1) := by decide +kernel
theorem dX9_shares_38 : decode cX9_shares 38 = .ok (.invokevirtual 129, 3) := by decide +kernel
theorem dX9_shares_41 : decode cX9_shares 41 = .ok (.ireturn, 1) := by decide +kernel
theorem dX9_isRecord_0 : decode cX9_isRecord 0 = .ok (.aload_n 0, 1) := by decide +kernel
theorem dX9_isRecord_1 : decode cX9_isRecord 1 = .ok (.iload_n 1, 1) := by decide +kernel
theorem dX9_isRecord_2 : decode cX9_isRecord 2 = .ok (.invokevirtual 110, 3) := by decide +kernel
theorem dX9_isRecord_5 : decode cX9_isRecord 5 = .ok (.ifCond .eq 24, 3) := by decide +kernel
theorem dX9_isRecord_8 : decode cX9_isRecord 8 = .ok (.iload_n 2, 1) := by decide +kernel
theorem dX9_isRecord_9 : decode cX9_isRecord 9 = .ok (.i2l, 1) := by decide +kernel
theorem dX9_isRecord_10 : decode cX9_isRecord 10 = .ok (.lconst 0, 1) := by decide +kernel
theorem dX9_isRecord_11 : decode cX9_isRecord 11 = .ok (.aload_n 0, 1) := by decide +kernel
theorem dX9_isRecord_12 : decode cX9_isRecord 12 = .ok (.iload_n 1, 1) := by decide +kernel
theorem dX9_isRecord_13 : decode cX9_isRecord 13 = .ok (.invokevirtual 73, 3) := by decide +kernel
theorem dX9_isRecord_16 : decode cX9_isRecord 16 = .ok (.iconst 1, 1) := by decide +kernel
theorem dX9_isRecord_17 : decode cX9_isRecord 17 = .ok (.isub, 1) := by decide +kernel
theorem dX9_isRecord_18 : decode cX9_isRecord 18 = .ok (.i2l, 1) := by decide +kernel
theorem dX9_isRecord_19 : decode cX9_isRecord 19 = .ok (.invokestatic 47, 3) := by decide +kernel
theorem dX9_isRecord_22 : decode cX9_isRecord 22 = .ok (.ifCond .eq 7, 3) := by decide +kernel
theorem dX9_isRecord_25 : decode cX9_isRecord 25 = .ok (.iconst 1, 1) := by decide +kernel
theorem dX9_isRecord_26 : decode cX9_isRecord 26 = .ok (.goto 4, 3) := by decide +kernel
theorem dX9_isRecord_29 : decode cX9_isRecord 29 = .ok (.iconst 0, 1) := by decide +kernel
theorem dX9_isRecord_30 : decode cX9_isRecord 30 = .ok (.ireturn, 1) := by decide +kernel
theorem dX9_canLeave_0 : decode cX9_canLeave 0 = .ok (.aload_n 0, 1) := by decide +kernel
theorem dX9_canLeave_1 : decode cX9_canLeave 1 = .ok (.iload_n 1, 1) := by decide +kernel
theorem dX9_canLeave_2 : decode cX9_canLeave 2 = .ok (.iload_n 2, 1) := by decide +kernel
theorem dX9_canLeave_3 : decode cX9_canLeave 3 = .ok (.invokevirtual 133, 3) := by decide +kernel
theorem dX9_canLeave_6 : decode cX9_canLeave 6 = .ok (.ifCond .ne 8, 3) := by decide +kernel
theorem dX9_canLeave_9 : decode cX9_canLeave 9 = .ok (.bipush (-2), 2) := by decide +kernel
theorem dX9_canLeave_11 : decode cX9_canLeave 11 = .ok (.goto 17, 3) := by decide +kernel
theorem dX9_canLeave_14 : decode cX9_canLeave 14 = .ok (.aload_n 0, 1) := by decide +kernel
theorem dX9_canLeave_15 : decode cX9_canLeave 15 = .ok (.iload_n 1, 1) := by decide +kernel
theorem dX9_canLeave_16 : decode cX9_canLeave 16 = .ok (.invokevirtual 59, 3) := by decide +kernel
theorem dX9_canLeave_19 : decode cX9_canLeave 19 = .ok (.ifCond .eq 7, 3) := by decide +kernel
theorem dX9_canLeave_22 : decode cX9_canLeave 22 = .ok (.iconst 0, 1) := by decide +kernel
theorem dX9_canLeave_23 : decode cX9_canLeave 23 = .ok (.goto 5, 3) := by decide +kernel
theorem dX9_canLeave_26 : decode cX9_canLeave 26 = .ok (.bipush (-3), 2) := by decide +kernel
theorem dX9_canLeave_28 : decode cX9_canLeave 28 = .ok (.ireturn, 1) := by decide +kernel
theorem dX9_leaveNow_0 : decode cX9_leaveNow 0 = .ok (.iload_n 1, 1) := by decide +kernel
theorem dX9_leaveNow_1 : decode cX9_leaveNow 1 = .ok (.iload_n 2, 1) := by decide +kernel
theorem dX9_leaveNow_2 : decode cX9_leaveNow 2 = .ok (.invokestatic 55, 3) := by decide +kernel
theorem dX9_leaveNow_5 : decode cX9_leaveNow 5 = .ok (.istore_n 3, 1) := by decide +kernel
theorem dX9_leaveNow_6 : decode cX9_leaveNow 6 = .ok (.aload_n 0, 1) := by decide +kernel
theorem dX9_leaveNow_7 : decode cX9_leaveNow 7 = .ok (.getfield 7, 3) := by decide +kernel
theorem dX9_leaveNow_10 : decode cX9_leaveNow 10 = .ok (.iload_n 3, 1) := by decide +kernel
theorem dX9_leaveNow_11 : decode cX9_leaveNow 11 = .ok (.iconst 4, 1) := by decide +kernel
theorem dX9_leaveNow_12 : decode cX9_leaveNow 12 = .ok (.iadd, 1) := by decide +kernel
theorem dX9_leaveNow_13 : decode cX9_leaveNow 13 = .ok (.iaload, 1) := by decide +kernel
theorem dX9_leaveNow_14 : decode cX9_leaveNow 14 = .ok (.iconst 3, 1) := by decide +kernel
theorem dX9_leaveNow_15 : decode cX9_leaveNow 15 = .ok (.if_icmp .ne 88, 3) := by decide +kernel
theorem dX9_leaveNow_18 : decode cX9_leaveNow 18 = .ok (.aload_n 0, 1) := by decide +kernel
theorem dX9_leaveNow_19 : decode cX9_leaveNow 19 = .ok (.getfield 7, 3) := by decide +kernel
theorem dX9_leaveNow_22 : decode cX9_leaveNow 22 = .ok (.iconst 2, 1) := by decide +kernel
theorem dX9_leaveNow_23 : decode cX9_leaveNow 23 = .ok (.dup2, 1) := by decide +kernel
theorem dX9_leaveNow_24 : decode cX9_leaveNow 24 = .ok (.iaload, 1) := by decide +kernel
theorem dX9_leaveNow_25 : decode cX9_leaveNow 25 = .ok (.iconst 1, 1) := by decide +kernel
theorem dX9_leaveNow_26 : decode cX9_leaveNow 26 = .ok (.iadd, 1) := by decide +kernel
theorem dX9_leaveNow_27 : decode cX9_leaveNow 27 = .ok (.iastore, 1) := by decide +kernel
theorem dX9_leaveNow_28 : decode cX9_leaveNow 28 = .ok (.iconst 0, 1) := by decide +kernel
theorem dX9_leaveNow_29 : decode cX9_leaveNow 29 = .ok (.istore 4, 2) := by decide +kernel
theorem dX9_leaveNow_31 : decode cX9_leaveNow 31 = .ok (.iload 4, 2) := by decide +kernel
theorem dX9_leaveNow_33 : decode cX9_leaveNow 33 = .ok (.aload_n 0, 1) := by decide +kernel
theorem dX9_leaveNow_34 : decode cX9_leaveNow 34 = .ok (.getfield 7, 3) := by decide +kernel
theorem dX9_leaveNow_37 : decode cX9_leaveNow 37 = .ok (.iconst 0, 1) := by decide +kernel
theorem dX9_leaveNow_38 : decode cX9_leaveNow 38 = .ok (.iaload, 1) := by decide +kernel
theorem dX9_leaveNow_39 : decode cX9_leaveNow 39 = .ok (.if_icmp .ge 64, 3) := by decide +kernel
theorem dX9_leaveNow_42 : decode cX9_leaveNow 42 = .ok (.iconst 0, 1) := by decide +kernel
theorem dX9_leaveNow_43 : decode cX9_leaveNow 43 = .ok (.istore 5, 2) := by decide +kernel
theorem dX9_leaveNow_45 : decode cX9_leaveNow 45 = .ok (.iload 5, 2) := by decide +kernel
theorem dX9_leaveNow_47 : decode cX9_leaveNow 47 = .ok (.aload_n 0, 1) := by decide +kernel
theorem dX9_leaveNow_48 : decode cX9_leaveNow 48 = .ok (.iload 4, 2) := by decide +kernel
theorem dX9_leaveNow_50 : decode cX9_leaveNow 50 = .ok (.invokevirtual 70, 3) := by decide +kernel
theorem dX9_leaveNow_53 : decode cX9_leaveNow 53 = .ok (.if_icmp .ge 44, 3) := by decide +kernel
theorem dX9_leaveNow_56 : decode cX9_leaveNow 56 = .ok (.aload_n 0, 1) := by decide +kernel
theorem dX9_leaveNow_57 : decode cX9_leaveNow 57 = .ok (.iload 4, 2) := by decide +kernel
theorem dX9_leaveNow_59 : decode cX9_leaveNow 59 = .ok (.invokevirtual 59, 3) := by decide +kernel
theorem dX9_leaveNow_62 : decode cX9_leaveNow 62 = .ok (.ifCond .eq 35, 3) := by decide +kernel
theorem dX9_leaveNow_65 : decode cX9_leaveNow 65 = .ok (.aload_n 0, 1) := by decide +kernel
theorem dX9_leaveNow_66 : decode cX9_leaveNow 66 = .ok (.iload 4, 2) := by decide +kernel
theorem dX9_leaveNow_68 : decode cX9_leaveNow 68 = .ok (.iload 5, 2) := by decide +kernel
theorem dX9_leaveNow_70 : decode cX9_leaveNow 70 = .ok (.invokestatic 67, 3) := by decide +kernel
theorem dX9_leaveNow_73 : decode cX9_leaveNow 73 = .ok (.iload_n 3, 1) := by decide +kernel
theorem dX9_leaveNow_74 : decode cX9_leaveNow 74 = .ok (.invokevirtual 76, 3) := by decide +kernel
theorem dX9_leaveNow_77 : decode cX9_leaveNow 77 = .ok (.ifCond .eq 14, 3) := by decide +kernel
theorem dX9_leaveNow_80 : decode cX9_leaveNow 80 = .ok (.aload_n 0, 1) := by decide +kernel
theorem dX9_leaveNow_81 : decode cX9_leaveNow 81 = .ok (.iload 4, 2) := by decide +kernel
theorem dX9_leaveNow_83 : decode cX9_leaveNow 83 = .ok (.iload 5, 2) := by decide +kernel
theorem dX9_leaveNow_85 : decode cX9_leaveNow 85 = .ok (.invokestatic 67, 3) := by decide +kernel
theorem dX9_leaveNow_88 : decode cX9_leaveNow 88 = .ok (.invokevirtual 86, 3) := by decide +kernel
theorem dX9_leaveNow_91 : decode cX9_leaveNow 91 = .ok (.iinc 5 1, 3) := by decide +kernel
theorem dX9_leaveNow_94 : decode cX9_leaveNow 94 = .ok (.goto (-49), 3) := by decide +kernel
theorem dX9_leaveNow_97 : decode cX9_leaveNow 97 = .ok (.iinc 4 1, 3) := by decide +kernel
theorem dX9_leaveNow_100 : decode cX9_leaveNow 100 = .ok (.goto (-69), 3) := by decide +kernel
theorem dX9_leaveNow_103 : decode cX9_leaveNow 103 = .ok (.aload_n 0, 1) := by decide +kernel
theorem dX9_leaveNow_104 : decode cX9_leaveNow 104 = .ok (.getfield 7, 3) := by decide +kernel
theorem dX9_leaveNow_107 : decode cX9_leaveNow 107 = .ok (.bipush 10, 2) := by decide +kernel
theorem dX9_leaveNow_109 : decode cX9_leaveNow 109 = .ok (.iconst 4, 1) := by decide +kernel
theorem dX9_leaveNow_110 : decode cX9_leaveNow 110 = .ok (.iload_n 1, 1) := by decide +kernel
theorem dX9_leaveNow_111 : decode cX9_leaveNow 111 = .ok (.imul, 1) := by decide +kernel
theorem dX9_leaveNow_112 : decode cX9_leaveNow 112 = .ok (.iadd, 1) := by decide +kernel
theorem dX9_leaveNow_113 : decode cX9_leaveNow 113 = .ok (.iconst 2, 1) := by decide +kernel
theorem dX9_leaveNow_114 : decode cX9_leaveNow 114 = .ok (.iadd, 1) := by decide +kernel
theorem dX9_leaveNow_115 : decode cX9_leaveNow 115 = .ok (.dup2, 1) := by decide +kernel
theorem dX9_leaveNow_116 : decode cX9_leaveNow 116 = .ok (.iaload, 1) := by decide +kernel
theorem dX9_leaveNow_117 : decode cX9_leaveNow 117 = .ok (.iconst 1, 1) := by decide +kernel
theorem dX9_leaveNow_118 : decode cX9_leaveNow 118 = .ok (.isub, 1) := by decide +kernel
theorem dX9_leaveNow_119 : decode cX9_leaveNow 119 = .ok (.iastore, 1) := by decide +kernel
theorem dX9_leaveNow_120 : decode cX9_leaveNow 120 = .ok (.iload_n 3, 1) := by decide +kernel
theorem dX9_leaveNow_121 : decode cX9_leaveNow 121 = .ok (.istore 4, 2) := by decide +kernel
theorem dX9_leaveNow_123 : decode cX9_leaveNow 123 = .ok (.iload 4, 2) := by decide +kernel
theorem dX9_leaveNow_125 : decode cX9_leaveNow 125 = .ok (.iload_n 1, 1) := by decide +kernel
theorem dX9_leaveNow_126 : decode cX9_leaveNow 126 = .ok (.aload_n 0, 1) := by decide +kernel
theorem dX9_leaveNow_127 : decode cX9_leaveNow 127 = .ok (.iload_n 1, 1) := by decide +kernel
theorem dX9_leaveNow_128 : decode cX9_leaveNow 128 = .ok (.invokevirtual 73, 3) := by decide +kernel
theorem dX9_leaveNow_131 : decode cX9_leaveNow 131 = .ok (.invokestatic 55, 3) := by decide +kernel
theorem dX9_leaveNow_134 : decode cX9_leaveNow 134 = .ok (.if_icmp .ge 26, 3) := by decide +kernel
theorem dX9_leaveNow_137 : decode cX9_leaveNow 137 = .ok (.aload_n 0, 1) := by decide +kernel
theorem dX9_leaveNow_138 : decode cX9_leaveNow 138 = .ok (.getfield 7, 3) := by decide +kernel
theorem dX9_leaveNow_141 : decode cX9_leaveNow 141 = .ok (.iload 4, 2) := by decide +kernel
theorem dX9_leaveNow_143 : decode cX9_leaveNow 143 = .ok (.aload_n 0, 1) := by decide +kernel
theorem dX9_leaveNow_144 : decode cX9_leaveNow 144 = .ok (.getfield 7, 3) := by decide +kernel
theorem dX9_leaveNow_147 : decode cX9_leaveNow 147 = .ok (.iload 4, 2) := by decide +kernel
theorem dX9_leaveNow_149 : decode cX9_leaveNow 149 = .ok (.bipush 7, 2) := by decide +kernel
theorem dX9_leaveNow_151 : decode cX9_leaveNow 151 = .ok (.iadd, 1) := by decide +kernel
theorem dX9_leaveNow_152 : decode cX9_leaveNow 152 = .ok (.iaload, 1) := by decide +kernel
theorem dX9_leaveNow_153 : decode cX9_leaveNow 153 = .ok (.iastore, 1) := by decide +kernel
theorem dX9_leaveNow_154 : decode cX9_leaveNow 154 = .ok (.iinc 4 1, 3) := by decide +kernel
theorem dX9_leaveNow_157 : decode cX9_leaveNow 157 = .ok (.goto (-34), 3) := by decide +kernel
theorem dX9_leaveNow_160 : decode cX9_leaveNow 160 = .ok (.aload_n 0, 1) := by decide +kernel
theorem dX9_leaveNow_161 : decode cX9_leaveNow 161 = .ok (.iload_n 1, 1) := by decide +kernel
theorem dX9_leaveNow_162 : decode cX9_leaveNow 162 = .ok (.invokevirtual 73, 3) := by decide +kernel
theorem dX9_leaveNow_165 : decode cX9_leaveNow 165 = .ok (.ireturn, 1) := by decide +kernel
theorem dX9_leaves_0 : decode cX9_leaves 0 = .ok (.aload_n 0, 1) := by decide +kernel
theorem dX9_leaves_1 : decode cX9_leaves 1 = .ok (.iload_n 1, 1) := by decide +kernel
theorem dX9_leaves_2 : decode cX9_leaves 2 = .ok (.iload_n 2, 1) := by decide +kernel
theorem dX9_leaves_3 : decode cX9_leaves 3 = .ok (.invokevirtual 136, 3) := by decide +kernel
theorem dX9_leaves_6 : decode cX9_leaves 6 = .ok (.istore_n 3, 1) := by decide +kernel
theorem dX9_leaves_7 : decode cX9_leaves 7 = .ok (.iload_n 3, 1) := by decide +kernel
theorem dX9_leaves_8 : decode cX9_leaves 8 = .ok (.ifCond .ge 9, 3) := by decide +kernel
theorem dX9_leaves_11 : decode cX9_leaves 11 = .ok (.aload_n 0, 1) := by decide +kernel
theorem dX9_leaves_12 : decode cX9_leaves 12 = .ok (.iload_n 3, 1) := by decide +kernel
theorem dX9_leaves_13 : decode cX9_leaves 13 = .ok (.invokevirtual 97, 3) := by decide +kernel
theorem dX9_leaves_16 : decode cX9_leaves 16 = .ok (.ireturn, 1) := by decide +kernel
theorem dX9_leaves_17 : decode cX9_leaves 17 = .ok (.aload_n 0, 1) := by decide +kernel
theorem dX9_leaves_18 : decode cX9_leaves 18 = .ok (.invokevirtual 100, 3) := by decide +kernel
theorem dX9_leaves_21 : decode cX9_leaves 21 = .ok (.aload_n 0, 1) := by decide +kernel
theorem dX9_leaves_22 : decode cX9_leaves 22 = .ok (.iload_n 1, 1) := by decide +kernel
theorem dX9_leaves_23 : decode cX9_leaves 23 = .ok (.iload_n 2, 1) := by decide +kernel
theorem dX9_leaves_24 : decode cX9_leaves 24 = .ok (.invokevirtual 139, 3) := by decide +kernel
theorem dX9_leaves_27 : decode cX9_leaves 27 = .ok (.ireturn, 1) := by decide +kernel
theorem dX9_recordThen_0 : decode cX9_recordThen 0 = .ok (.iload_n 3, 1) := by decide +kernel
theorem dX9_recordThen_1 : decode cX9_recordThen 1 = .ok (.bipush 7, 2) := by decide +kernel
theorem dX9_recordThen_3 : decode cX9_recordThen 3 = .ok (.if_icmp .ne 20, 3) := by decide +kernel
theorem dX9_recordThen_6 : decode cX9_recordThen 6 = .ok (.aload_n 0, 1) := by decide +kernel
theorem dX9_recordThen_7 : decode cX9_recordThen 7 = .ok (.iload_n 1, 1) := by decide +kernel
theorem dX9_recordThen_8 : decode cX9_recordThen 8 = .ok (.iload_n 2, 1) := by decide +kernel
theorem dX9_recordThen_9 : decode cX9_recordThen 9 = .ok (.invokevirtual 142, 3) := by decide +kernel
theorem dX9_recordThen_12 : decode cX9_recordThen 12 = .ok (.ifCond .eq 7, 3) := by decide +kernel
theorem dX9_recordThen_15 : decode cX9_recordThen 15 = .ok (.iconst 1, 1) := by decide +kernel
theorem dX9_recordThen_16 : decode cX9_recordThen 16 = .ok (.goto 19, 3) := by decide +kernel
theorem dX9_recordThen_19 : decode cX9_recordThen 19 = .ok (.iconst 0, 1) := by decide +kernel
theorem dX9_recordThen_20 : decode cX9_recordThen 20 = .ok (.goto 15, 3) := by decide +kernel
theorem dX9_recordThen_23 : decode cX9_recordThen 23 = .ok (.aload_n 0, 1) := by decide +kernel
theorem dX9_recordThen_24 : decode cX9_recordThen 24 = .ok (.getfield 7, 3) := by decide +kernel
theorem dX9_recordThen_27 : decode cX9_recordThen 27 = .ok (.iload_n 1, 1) := by decide +kernel
theorem dX9_recordThen_28 : decode cX9_recordThen 28 = .ok (.iload_n 2, 1) := by decide +kernel
theorem dX9_recordThen_29 : decode cX9_recordThen 29 = .ok (.invokestatic 55, 3) := by decide +kernel
theorem dX9_recordThen_32 : decode cX9_recordThen 32 = .ok (.iload_n 3, 1) := by decide +kernel
theorem dX9_recordThen_33 : decode cX9_recordThen 33 = .ok (.iadd, 1) := by decide +kernel
theorem dX9_recordThen_34 : decode cX9_recordThen 34 = .ok (.iaload, 1) := by decide +kernel
theorem dX9_recordThen_35 : decode cX9_recordThen 35 = .ok (.ireturn, 1) := by decide +kernel
theorem dX9_record_0 : decode cX9_record 0 = .ok (.aload_n 0, 1) := by decide +kernel
theorem dX9_record_1 : decode cX9_record 1 = .ok (.iload_n 1, 1) := by decide +kernel
theorem dX9_record_2 : decode cX9_record 2 = .ok (.iload_n 2, 1) := by decide +kernel
theorem dX9_record_3 : decode cX9_record 3 = .ok (.invokevirtual 133, 3) := by decide +kernel
theorem dX9_record_6 : decode cX9_record 6 = .ok (.ifCond .eq 25, 3) := by decide +kernel
theorem dX9_record_9 : decode cX9_record 9 = .ok (.iload_n 3, 1) := by decide +kernel
theorem dX9_record_10 : decode cX9_record 10 = .ok (.i2l, 1) := by decide +kernel
theorem dX9_record_11 : decode cX9_record 11 = .ok (.lconst 0, 1) := by decide +kernel
theorem dX9_record_12 : decode cX9_record 12 = .ok (.ldc2_w 145, 3) := by decide +kernel
theorem dX9_record_15 : decode cX9_record 15 = .ok (.invokestatic 47, 3) := by decide +kernel
theorem dX9_record_18 : decode cX9_record 18 = .ok (.ifCond .eq 13, 3) := by decide +kernel
theorem dX9_record_21 : decode cX9_record 21 = .ok (.aload_n 0, 1) := by decide +kernel
theorem dX9_record_22 : decode cX9_record 22 = .ok (.iload_n 1, 1) := by decide +kernel
theorem dX9_record_23 : decode cX9_record 23 = .ok (.iload_n 2, 1) := by decide +kernel
theorem dX9_record_24 : decode cX9_record 24 = .ok (.iload_n 3, 1) := by decide +kernel
theorem dX9_record_25 : decode cX9_record 25 = .ok (.invokevirtual 147, 3) := by decide +kernel
theorem dX9_record_28 : decode cX9_record 28 = .ok (.goto 9, 3) := by decide +kernel
theorem dX9_record_31 : decode cX9_record 31 = .ok (.aload_n 0, 1) := by decide +kernel
theorem dX9_record_32 : decode cX9_record 32 = .ok (.bipush (-2), 2) := by decide +kernel
theorem dX9_record_34 : decode cX9_record 34 = .ok (.invokevirtual 97, 3) := by decide +kernel
theorem dX9_record_37 : decode cX9_record 37 = .ok (.ireturn, 1) := by decide +kernel
theorem dX9_owned_0 : decode cX9_owned 0 = .ok (.iconst 0, 1) := by decide +kernel
theorem dX9_owned_1 : decode cX9_owned 1 = .ok (.istore_n 2, 1) := by decide +kernel
theorem dX9_owned_2 : decode cX9_owned 2 = .ok (.iconst 0, 1) := by decide +kernel
theorem dX9_owned_3 : decode cX9_owned 3 = .ok (.istore_n 3, 1) := by decide +kernel
theorem dX9_owned_4 : decode cX9_owned 4 = .ok (.iload_n 3, 1) := by decide +kernel
theorem dX9_owned_5 : decode cX9_owned 5 = .ok (.aload_n 0, 1) := by decide +kernel
theorem dX9_owned_6 : decode cX9_owned 6 = .ok (.iload_n 1, 1) := by decide +kernel
theorem dX9_owned_7 : decode cX9_owned 7 = .ok (.invokevirtual 73, 3) := by decide +kernel
theorem dX9_owned_10 : decode cX9_owned 10 = .ok (.if_icmp .ge 33, 3) := by decide +kernel
theorem dX9_owned_13 : decode cX9_owned 13 = .ok (.iload_n 2, 1) := by decide +kernel
theorem dX9_owned_14 : decode cX9_owned 14 = .ok (.aload_n 0, 1) := by decide +kernel
theorem dX9_owned_15 : decode cX9_owned 15 = .ok (.getfield 7, 3) := by decide +kernel
theorem dX9_owned_18 : decode cX9_owned 18 = .ok (.iload_n 1, 1) := by decide +kernel
theorem dX9_owned_19 : decode cX9_owned 19 = .ok (.iload_n 3, 1) := by decide +kernel
theorem dX9_owned_20 : decode cX9_owned 20 = .ok (.invokestatic 55, 3) := by decide +kernel
theorem dX9_owned_23 : decode cX9_owned 23 = .ok (.iconst 4, 1) := by decide +kernel
theorem dX9_owned_24 : decode cX9_owned 24 = .ok (.iadd, 1) := by decide +kernel
theorem dX9_owned_25 : decode cX9_owned 25 = .ok (.iaload, 1) := by decide +kernel
theorem dX9_owned_26 : decode cX9_owned 26 = .ok (.iconst 3, 1) := by decide +kernel
theorem dX9_owned_27 : decode cX9_owned 27 = .ok (.if_icmp .ne 7, 3) := by decide +kernel
theorem dX9_owned_30 : decode cX9_owned 30 = .ok (.iconst 1, 1) := by decide +kernel
theorem dX9_owned_31 : decode cX9_owned 31 = .ok (.goto 4, 3) := by decide +kernel
theorem dX9_owned_34 : decode cX9_owned 34 = .ok (.iconst 0, 1) := by decide +kernel
theorem dX9_owned_35 : decode cX9_owned 35 = .ok (.iadd, 1) := by decide +kernel
theorem dX9_owned_36 : decode cX9_owned 36 = .ok (.istore_n 2, 1) := by decide +kernel
theorem dX9_owned_37 : decode cX9_owned 37 = .ok (.iinc 3 1, 3) := by decide +kernel
theorem dX9_owned_40 : decode cX9_owned 40 = .ok (.goto (-36), 3) := by decide +kernel
theorem dX9_owned_43 : decode cX9_owned 43 = .ok (.iload_n 2, 1) := by decide +kernel
theorem dX9_owned_44 : decode cX9_owned 44 = .ok (.ireturn, 1) := by decide +kernel
theorem dX9_stoodFor_0 : decode cX9_stoodFor 0 = .ok (.iconst 0, 1) := by decide +kernel
theorem dX9_stoodFor_1 : decode cX9_stoodFor 1 = .ok (.istore_n 2, 1) := by decide +kernel
theorem dX9_stoodFor_2 : decode cX9_stoodFor 2 = .ok (.iconst 0, 1) := by decide +kernel
theorem dX9_stoodFor_3 : decode cX9_stoodFor 3 = .ok (.istore_n 3, 1) := by decide +kernel
theorem dX9_stoodFor_4 : decode cX9_stoodFor 4 = .ok (.iload_n 3, 1) := by decide +kernel
theorem dX9_stoodFor_5 : decode cX9_stoodFor 5 = .ok (.aload_n 0, 1) := by decide +kernel
theorem dX9_stoodFor_6 : decode cX9_stoodFor 6 = .ok (.getfield 7, 3) := by decide +kernel
theorem dX9_stoodFor_9 : decode cX9_stoodFor 9 = .ok (.iconst 0, 1) := by decide +kernel
theorem dX9_stoodFor_10 : decode cX9_stoodFor 10 = .ok (.iaload, 1) := by decide +kernel
theorem dX9_stoodFor_11 : decode cX9_stoodFor 11 = .ok (.if_icmp .ge 28, 3) := by decide +kernel
theorem dX9_stoodFor_14 : decode cX9_stoodFor 14 = .ok (.iload_n 2, 1) := by decide +kernel
theorem dX9_stoodFor_15 : decode cX9_stoodFor 15 = .ok (.aload_n 0, 1) := by decide +kernel
theorem dX9_stoodFor_16 : decode cX9_stoodFor 16 = .ok (.iload_n 3, 1) := by decide +kernel
theorem dX9_stoodFor_17 : decode cX9_stoodFor 17 = .ok (.invokevirtual 63, 3) := by decide +kernel
theorem dX9_stoodFor_20 : decode cX9_stoodFor 20 = .ok (.iload_n 1, 1) := by decide +kernel
theorem dX9_stoodFor_21 : decode cX9_stoodFor 21 = .ok (.if_icmp .ne 9, 3) := by decide +kernel
theorem dX9_stoodFor_24 : decode cX9_stoodFor 24 = .ok (.iconst 1, 1) := by decide +kernel
theorem dX9_stoodFor_25 : decode cX9_stoodFor 25 = .ok (.iload_n 3, 1) := by decide +kernel
theorem dX9_stoodFor_26 : decode cX9_stoodFor 26 = .ok (.ishl, 1) := by decide +kernel
theorem dX9_stoodFor_27 : decode cX9_stoodFor 27 = .ok (.goto 4, 3) := by decide +kernel
theorem dX9_stoodFor_30 : decode cX9_stoodFor 30 = .ok (.iconst 0, 1) := by decide +kernel
theorem dX9_stoodFor_31 : decode cX9_stoodFor 31 = .ok (.ior, 1) := by decide +kernel
theorem dX9_stoodFor_32 : decode cX9_stoodFor 32 = .ok (.istore_n 2, 1) := by decide +kernel
theorem dX9_stoodFor_33 : decode cX9_stoodFor 33 = .ok (.iinc 3 1, 3) := by decide +kernel
theorem dX9_stoodFor_36 : decode cX9_stoodFor 36 = .ok (.goto (-32), 3) := by decide +kernel
theorem dX9_stoodFor_39 : decode cX9_stoodFor 39 = .ok (.iload_n 2, 1) := by decide +kernel
theorem dX9_stoodFor_40 : decode cX9_stoodFor 40 = .ok (.ireturn, 1) := by decide +kernel
theorem dX9_ofNow_0 : decode cX9_ofNow 0 = .ok (.iload_n 2, 1) := by decide +kernel
theorem dX9_ofNow_1 : decode cX9_ofNow 1 = .ok (.tableswitch 71 0 4 #[35, 41, 53, 59, 65], 35) := by decide +kernel
theorem dX9_ofNow_36 : decode cX9_ofNow 36 = .ok (.aload_n 0, 1) := by decide +kernel
theorem dX9_ofNow_37 : decode cX9_ofNow 37 = .ok (.iload_n 1, 1) := by decide +kernel
theorem dX9_ofNow_38 : decode cX9_ofNow 38 = .ok (.invokevirtual 73, 3) := by decide +kernel
theorem dX9_ofNow_41 : decode cX9_ofNow 41 = .ok (.ireturn, 1) := by decide +kernel
theorem dX9_ofNow_42 : decode cX9_ofNow 42 = .ok (.aload_n 0, 1) := by decide +kernel
theorem dX9_ofNow_43 : decode cX9_ofNow 43 = .ok (.getfield 7, 3) := by decide +kernel
theorem dX9_ofNow_46 : decode cX9_ofNow 46 = .ok (.bipush 10, 2) := by decide +kernel
theorem dX9_ofNow_48 : decode cX9_ofNow 48 = .ok (.iconst 4, 1) := by decide +kernel
theorem dX9_ofNow_49 : decode cX9_ofNow 49 = .ok (.iload_n 1, 1) := by decide +kernel
theorem dX9_ofNow_50 : decode cX9_ofNow 50 = .ok (.imul, 1) := by decide +kernel
theorem dX9_ofNow_51 : decode cX9_ofNow 51 = .ok (.iadd, 1) := by decide +kernel
theorem dX9_ofNow_52 : decode cX9_ofNow 52 = .ok (.iaload, 1) := by decide +kernel
theorem dX9_ofNow_53 : decode cX9_ofNow 53 = .ok (.ireturn, 1) := by decide +kernel
theorem dX9_ofNow_54 : decode cX9_ofNow 54 = .ok (.aload_n 0, 1) := by decide +kernel
theorem dX9_ofNow_55 : decode cX9_ofNow 55 = .ok (.iload_n 1, 1) := by decide +kernel
theorem dX9_ofNow_56 : decode cX9_ofNow 56 = .ok (.invokevirtual 63, 3) := by decide +kernel
theorem dX9_ofNow_59 : decode cX9_ofNow 59 = .ok (.ireturn, 1) := by decide +kernel
theorem dX9_ofNow_60 : decode cX9_ofNow 60 = .ok (.aload_n 0, 1) := by decide +kernel
theorem dX9_ofNow_61 : decode cX9_ofNow 61 = .ok (.iload_n 1, 1) := by decide +kernel
theorem dX9_ofNow_62 : decode cX9_ofNow 62 = .ok (.invokevirtual 70, 3) := by decide +kernel
theorem dX9_ofNow_65 : decode cX9_ofNow 65 = .ok (.ireturn, 1) := by decide +kernel
theorem dX9_ofNow_66 : decode cX9_ofNow 66 = .ok (.aload_n 0, 1) := by decide +kernel
theorem dX9_ofNow_67 : decode cX9_ofNow 67 = .ok (.iload_n 1, 1) := by decide +kernel
theorem dX9_ofNow_68 : decode cX9_ofNow 68 = .ok (.invokevirtual 151, 3) := by decide +kernel
theorem dX9_ofNow_71 : decode cX9_ofNow 71 = .ok (.ireturn, 1) := by decide +kernel
theorem dX9_ofNow_72 : decode cX9_ofNow 72 = .ok (.aload_n 0, 1) := by decide +kernel
theorem dX9_ofNow_73 : decode cX9_ofNow 73 = .ok (.iload_n 1, 1) := by decide +kernel
theorem dX9_ofNow_74 : decode cX9_ofNow 74 = .ok (.invokevirtual 154, 3) := by decide +kernel
theorem dX9_ofNow_77 : decode cX9_ofNow 77 = .ok (.ireturn, 1) := by decide +kernel
theorem dX9_of_0 : decode cX9_of 0 = .ok (.aload_n 0, 1) := by decide +kernel
theorem dX9_of_1 : decode cX9_of 1 = .ok (.iload_n 1, 1) := by decide +kernel
theorem dX9_of_2 : decode cX9_of 2 = .ok (.invokevirtual 110, 3) := by decide +kernel
theorem dX9_of_5 : decode cX9_of 5 = .ok (.ifCond .eq 24, 3) := by decide +kernel
theorem dX9_of_8 : decode cX9_of 8 = .ok (.iload_n 2, 1) := by decide +kernel
theorem dX9_of_9 : decode cX9_of 9 = .ok (.i2l, 1) := by decide +kernel
theorem dX9_of_10 : decode cX9_of 10 = .ok (.lconst 0, 1) := by decide +kernel
theorem dX9_of_11 : decode cX9_of 11 = .ok (.ldc2_w 157, 3) := by decide +kernel
theorem dX9_of_14 : decode cX9_of 14 = .ok (.invokestatic 47, 3) := by decide +kernel
theorem dX9_of_17 : decode cX9_of 17 = .ok (.ifCond .eq 12, 3) := by decide +kernel
theorem dX9_of_20 : decode cX9_of 20 = .ok (.aload_n 0, 1) := by decide +kernel
theorem dX9_of_21 : decode cX9_of 21 = .ok (.iload_n 1, 1) := by decide +kernel
theorem dX9_of_22 : decode cX9_of 22 = .ok (.iload_n 2, 1) := by decide +kernel
theorem dX9_of_23 : decode cX9_of 23 = .ok (.invokevirtual 159, 3) := by decide +kernel
theorem dX9_of_26 : decode cX9_of 26 = .ok (.goto 9, 3) := by decide +kernel
theorem dX9_of_29 : decode cX9_of 29 = .ok (.aload_n 0, 1) := by decide +kernel
theorem dX9_of_30 : decode cX9_of 30 = .ok (.bipush (-2), 2) := by decide +kernel
theorem dX9_of_32 : decode cX9_of 32 = .ok (.invokevirtual 97, 3) := by decide +kernel
theorem dX9_of_35 : decode cX9_of 35 = .ok (.ireturn, 1) := by decide +kernel
theorem dX9_ages_0 : decode cX9_ages 0 = .ok (.aload_n 0, 1) := by decide +kernel
theorem dX9_ages_1 : decode cX9_ages 1 = .ok (.getfield 7, 3) := by decide +kernel
theorem dX9_ages_4 : decode cX9_ages 4 = .ok (.iconst 1, 1) := by decide +kernel
theorem dX9_ages_5 : decode cX9_ages 5 = .ok (.dup2, 1) := by decide +kernel
theorem dX9_ages_6 : decode cX9_ages 6 = .ok (.iaload, 1) := by decide +kernel
theorem dX9_ages_7 : decode cX9_ages 7 = .ok (.iconst 1, 1) := by decide +kernel
theorem dX9_ages_8 : decode cX9_ages 8 = .ok (.iadd, 1) := by decide +kernel
theorem dX9_ages_9 : decode cX9_ages 9 = .ok (.iastore, 1) := by decide +kernel
theorem dX9_ages_10 : decode cX9_ages 10 = .ok (.iconst 0, 1) := by decide +kernel
theorem dX9_ages_11 : decode cX9_ages 11 = .ok (.istore_n 1, 1) := by decide +kernel
theorem dX9_ages_12 : decode cX9_ages 12 = .ok (.iload_n 1, 1) := by decide +kernel
theorem dX9_ages_13 : decode cX9_ages 13 = .ok (.aload_n 0, 1) := by decide +kernel
theorem dX9_ages_14 : decode cX9_ages 14 = .ok (.getfield 7, 3) := by decide +kernel
theorem dX9_ages_17 : decode cX9_ages 17 = .ok (.iconst 0, 1) := by decide +kernel
theorem dX9_ages_18 : decode cX9_ages 18 = .ok (.iaload, 1) := by decide +kernel
theorem dX9_ages_19 : decode cX9_ages 19 = .ok (.if_icmp .ge 54, 3) := by decide +kernel
theorem dX9_ages_22 : decode cX9_ages 22 = .ok (.aload_n 0, 1) := by decide +kernel
theorem dX9_ages_23 : decode cX9_ages 23 = .ok (.iload_n 1, 1) := by decide +kernel
theorem dX9_ages_24 : decode cX9_ages 24 = .ok (.invokevirtual 70, 3) := by decide +kernel
theorem dX9_ages_27 : decode cX9_ages 27 = .ok (.iconst 1, 1) := by decide +kernel
theorem dX9_ages_28 : decode cX9_ages 28 = .ok (.isub, 1) := by decide +kernel
theorem dX9_ages_29 : decode cX9_ages 29 = .ok (.istore_n 2, 1) := by decide +kernel
theorem dX9_ages_30 : decode cX9_ages 30 = .ok (.iload_n 2, 1) := by decide +kernel
theorem dX9_ages_31 : decode cX9_ages 31 = .ok (.ifCond .lt 36, 3) := by decide +kernel
theorem dX9_ages_34 : decode cX9_ages 34 = .ok (.aload_n 0, 1) := by decide +kernel
theorem dX9_ages_35 : decode cX9_ages 35 = .ok (.getfield 7, 3) := by decide +kernel
theorem dX9_ages_38 : decode cX9_ages 38 = .ok (.iload_n 1, 1) := by decide +kernel
theorem dX9_ages_39 : decode cX9_ages 39 = .ok (.iload_n 2, 1) := by decide +kernel
theorem dX9_ages_40 : decode cX9_ages 40 = .ok (.invokestatic 67, 3) := by decide +kernel
theorem dX9_ages_43 : decode cX9_ages 43 = .ok (.iconst 4, 1) := by decide +kernel
theorem dX9_ages_44 : decode cX9_ages 44 = .ok (.iadd, 1) := by decide +kernel
theorem dX9_ages_45 : decode cX9_ages 45 = .ok (.iaload, 1) := by decide +kernel
theorem dX9_ages_46 : decode cX9_ages 46 = .ok (.aload_n 0, 1) := by decide +kernel
theorem dX9_ages_47 : decode cX9_ages 47 = .ok (.getfield 7, 3) := by decide +kernel
theorem dX9_ages_50 : decode cX9_ages 50 = .ok (.iconst 1, 1) := by decide +kernel
theorem dX9_ages_51 : decode cX9_ages 51 = .ok (.iaload, 1) := by decide +kernel
theorem dX9_ages_52 : decode cX9_ages 52 = .ok (.if_icmp .gt 9, 3) := by decide +kernel
theorem dX9_ages_55 : decode cX9_ages 55 = .ok (.aload_n 0, 1) := by decide +kernel
theorem dX9_ages_56 : decode cX9_ages 56 = .ok (.iload_n 1, 1) := by decide +kernel
theorem dX9_ages_57 : decode cX9_ages 57 = .ok (.iload_n 2, 1) := by decide +kernel
theorem dX9_ages_58 : decode cX9_ages 58 = .ok (.invokevirtual 82, 3) := by decide +kernel
theorem dX9_ages_61 : decode cX9_ages 61 = .ok (.iinc 2 (-1), 3) := by decide +kernel
theorem dX9_ages_64 : decode cX9_ages 64 = .ok (.goto (-34), 3) := by decide +kernel
theorem dX9_ages_67 : decode cX9_ages 67 = .ok (.iinc 1 1, 3) := by decide +kernel
theorem dX9_ages_70 : decode cX9_ages 70 = .ok (.goto (-58), 3) := by decide +kernel
theorem dX9_ages_73 : decode cX9_ages 73 = .ok (.return_, 1) := by decide +kernel
theorem dX9_isOpposed_0 : decode cX9_isOpposed 0 = .ok (.iconst 0, 1) := by decide +kernel
theorem dX9_isOpposed_1 : decode cX9_isOpposed 1 = .ok (.istore_n 3, 1) := by decide +kernel
theorem dX9_isOpposed_2 : decode cX9_isOpposed 2 = .ok (.iconst 0, 1) := by decide +kernel
theorem dX9_isOpposed_3 : decode cX9_isOpposed 3 = .ok (.istore 4, 2) := by decide +kernel
theorem dX9_isOpposed_5 : decode cX9_isOpposed 5 = .ok (.iload 4, 2) := by decide +kernel
theorem dX9_isOpposed_7 : decode cX9_isOpposed 7 = .ok (.aload_n 0, 1) := by decide +kernel
theorem dX9_isOpposed_8 : decode cX9_isOpposed 8 = .ok (.getfield 7, 3) := by decide +kernel
theorem dX9_isOpposed_11 : decode cX9_isOpposed 11 = .ok (.iconst 0, 1) := by decide +kernel
theorem dX9_isOpposed_12 : decode cX9_isOpposed 12 = .ok (.iaload, 1) := by decide +kernel
theorem dX9_isOpposed_13 : decode cX9_isOpposed 13 = .ok (.if_icmp .ge 86, 3) := by decide +kernel
theorem dX9_isOpposed_16 : decode cX9_isOpposed 16 = .ok (.iconst 0, 1) := by decide +kernel
theorem dX9_isOpposed_17 : decode cX9_isOpposed 17 = .ok (.istore 5, 2) := by decide +kernel
theorem dX9_isOpposed_19 : decode cX9_isOpposed 19 = .ok (.iload 5, 2) := by decide +kernel
theorem dX9_isOpposed_21 : decode cX9_isOpposed 21 = .ok (.aload_n 0, 1) := by decide +kernel
theorem dX9_isOpposed_22 : decode cX9_isOpposed 22 = .ok (.iload 4, 2) := by decide +kernel
theorem dX9_isOpposed_24 : decode cX9_isOpposed 24 = .ok (.invokevirtual 73, 3) := by decide +kernel
theorem dX9_isOpposed_27 : decode cX9_isOpposed 27 = .ok (.if_icmp .ge 66, 3) := by decide +kernel
theorem dX9_isOpposed_30 : decode cX9_isOpposed 30 = .ok (.iload 4, 2) := by decide +kernel
theorem dX9_isOpposed_32 : decode cX9_isOpposed 32 = .ok (.iload_n 1, 1) := by decide +kernel
theorem dX9_isOpposed_33 : decode cX9_isOpposed 33 = .ok (.if_icmp .eq 60, 3) := by decide +kernel
theorem dX9_isOpposed_36 : decode cX9_isOpposed 36 = .ok (.iload_n 3, 1) := by decide +kernel
theorem dX9_isOpposed_37 : decode cX9_isOpposed 37 = .ok (.ifCond .ne 44, 3) := by decide +kernel
theorem dX9_isOpposed_40 : decode cX9_isOpposed 40 = .ok (.aload_n 0, 1) := by decide +kernel
theorem dX9_isOpposed_41 : decode cX9_isOpposed 41 = .ok (.iload 4, 2) := by decide +kernel
theorem dX9_isOpposed_43 : decode cX9_isOpposed 43 = .ok (.iload 5, 2) := by decide +kernel
theorem dX9_isOpposed_45 : decode cX9_isOpposed 45 = .ok (.invokevirtual 142, 3) := by decide +kernel
theorem dX9_isOpposed_48 : decode cX9_isOpposed 48 = .ok (.ifCond .eq 37, 3) := by decide +kernel
theorem dX9_isOpposed_51 : decode cX9_isOpposed 51 = .ok (.aload_n 0, 1) := by decide +kernel
theorem dX9_isOpposed_52 : decode cX9_isOpposed 52 = .ok (.iload 4, 2) := by decide +kernel
theorem dX9_isOpposed_54 : decode cX9_isOpposed 54 = .ok (.iload 5, 2) := by decide +kernel
theorem dX9_isOpposed_56 : decode cX9_isOpposed 56 = .ok (.invokestatic 55, 3) := by decide +kernel
theorem dX9_isOpposed_59 : decode cX9_isOpposed 59 = .ok (.iload_n 2, 1) := by decide +kernel
theorem dX9_isOpposed_60 : decode cX9_isOpposed 60 = .ok (.invokevirtual 51, 3) := by decide +kernel
theorem dX9_isOpposed_63 : decode cX9_isOpposed 63 = .ok (.ifCond .eq 22, 3) := by decide +kernel
theorem dX9_isOpposed_66 : decode cX9_isOpposed 66 = .ok (.aload_n 0, 1) := by decide +kernel
theorem dX9_isOpposed_67 : decode cX9_isOpposed 67 = .ok (.iload 4, 2) := by decide +kernel
theorem dX9_isOpposed_69 : decode cX9_isOpposed 69 = .ok (.iload 5, 2) := by decide +kernel
theorem dX9_isOpposed_71 : decode cX9_isOpposed 71 = .ok (.invokestatic 55, 3) := by decide +kernel
theorem dX9_isOpposed_74 : decode cX9_isOpposed 74 = .ok (.iload_n 2, 1) := by decide +kernel
theorem dX9_isOpposed_75 : decode cX9_isOpposed 75 = .ok (.invokevirtual 76, 3) := by decide +kernel
theorem dX9_isOpposed_78 : decode cX9_isOpposed 78 = .ok (.ifCond .ne 7, 3) := by decide +kernel
theorem dX9_isOpposed_81 : decode cX9_isOpposed 81 = .ok (.iconst 1, 1) := by decide +kernel
theorem dX9_isOpposed_82 : decode cX9_isOpposed 82 = .ok (.goto 4, 3) := by decide +kernel
theorem dX9_isOpposed_85 : decode cX9_isOpposed 85 = .ok (.iconst 0, 1) := by decide +kernel
theorem dX9_isOpposed_86 : decode cX9_isOpposed 86 = .ok (.istore_n 3, 1) := by decide +kernel
theorem dX9_isOpposed_87 : decode cX9_isOpposed 87 = .ok (.iinc 5 1, 3) := by decide +kernel
theorem dX9_isOpposed_90 : decode cX9_isOpposed 90 = .ok (.goto (-71), 3) := by decide +kernel
theorem dX9_isOpposed_93 : decode cX9_isOpposed 93 = .ok (.iinc 4 1, 3) := by decide +kernel
theorem dX9_isOpposed_96 : decode cX9_isOpposed 96 = .ok (.goto (-91), 3) := by decide +kernel
theorem dX9_isOpposed_99 : decode cX9_isOpposed 99 = .ok (.iload_n 3, 1) := by decide +kernel
theorem dX9_isOpposed_100 : decode cX9_isOpposed 100 = .ok (.ireturn, 1) := by decide +kernel
theorem dX9_isOutbid_0 : decode cX9_isOutbid 0 = .ok (.iconst 0, 1) := by decide +kernel
theorem dX9_isOutbid_1 : decode cX9_isOutbid 1 = .ok (.istore_n 3, 1) := by decide +kernel
theorem dX9_isOutbid_2 : decode cX9_isOutbid 2 = .ok (.iconst 0, 1) := by decide +kernel
theorem dX9_isOutbid_3 : decode cX9_isOutbid 3 = .ok (.istore 4, 2) := by decide +kernel
theorem dX9_isOutbid_5 : decode cX9_isOutbid 5 = .ok (.iload 4, 2) := by decide +kernel
theorem dX9_isOutbid_7 : decode cX9_isOutbid 7 = .ok (.aload_n 0, 1) := by decide +kernel
theorem dX9_isOutbid_8 : decode cX9_isOutbid 8 = .ok (.getfield 7, 3) := by decide +kernel
theorem dX9_isOutbid_11 : decode cX9_isOutbid 11 = .ok (.iconst 0, 1) := by decide +kernel
theorem dX9_isOutbid_12 : decode cX9_isOutbid 12 = .ok (.iaload, 1) := by decide +kernel
theorem dX9_isOutbid_13 : decode cX9_isOutbid 13 = .ok (.if_icmp .ge 106, 3) := by decide +kernel
theorem dX9_isOutbid_16 : decode cX9_isOutbid 16 = .ok (.iconst 0, 1) := by decide +kernel
theorem dX9_isOutbid_17 : decode cX9_isOutbid 17 = .ok (.istore 5, 2) := by decide +kernel
theorem dX9_isOutbid_19 : decode cX9_isOutbid 19 = .ok (.iload 5, 2) := by decide +kernel
theorem dX9_isOutbid_21 : decode cX9_isOutbid 21 = .ok (.aload_n 0, 1) := by decide +kernel
theorem dX9_isOutbid_22 : decode cX9_isOutbid 22 = .ok (.iload 4, 2) := by decide +kernel
theorem dX9_isOutbid_24 : decode cX9_isOutbid 24 = .ok (.invokevirtual 73, 3) := by decide +kernel
theorem dX9_isOutbid_27 : decode cX9_isOutbid 27 = .ok (.if_icmp .ge 86, 3) := by decide +kernel
theorem dX9_isOutbid_30 : decode cX9_isOutbid 30 = .ok (.iload 4, 2) := by decide +kernel
theorem dX9_isOutbid_32 : decode cX9_isOutbid 32 = .ok (.iload_n 1, 1) := by decide +kernel
theorem dX9_isOutbid_33 : decode cX9_isOutbid 33 = .ok (.if_icmp .eq 80, 3) := by decide +kernel
theorem dX9_isOutbid_36 : decode cX9_isOutbid 36 = .ok (.aload_n 0, 1) := by decide +kernel
theorem dX9_isOutbid_37 : decode cX9_isOutbid 37 = .ok (.iload 4, 2) := by decide +kernel
theorem dX9_isOutbid_39 : decode cX9_isOutbid 39 = .ok (.invokevirtual 59, 3) := by decide +kernel
theorem dX9_isOutbid_42 : decode cX9_isOutbid 42 = .ok (.ifCond .eq 71, 3) := by decide +kernel
theorem dX9_isOutbid_45 : decode cX9_isOutbid 45 = .ok (.iload 4, 2) := by decide +kernel
theorem dX9_isOutbid_47 : decode cX9_isOutbid 47 = .ok (.iload 5, 2) := by decide +kernel
theorem dX9_isOutbid_49 : decode cX9_isOutbid 49 = .ok (.invokestatic 55, 3) := by decide +kernel
theorem dX9_isOutbid_52 : decode cX9_isOutbid 52 = .ok (.istore 6, 2) := by decide +kernel
theorem dX9_isOutbid_54 : decode cX9_isOutbid 54 = .ok (.iload_n 3, 1) := by decide +kernel
theorem dX9_isOutbid_55 : decode cX9_isOutbid 55 = .ok (.ifCond .ne 46, 3) := by decide +kernel
theorem dX9_isOutbid_58 : decode cX9_isOutbid 58 = .ok (.aload_n 0, 1) := by decide +kernel
theorem dX9_isOutbid_59 : decode cX9_isOutbid 59 = .ok (.getfield 7, 3) := by decide +kernel
theorem dX9_isOutbid_62 : decode cX9_isOutbid 62 = .ok (.iload 6, 2) := by decide +kernel
theorem dX9_isOutbid_64 : decode cX9_isOutbid 64 = .ok (.iconst 4, 1) := by decide +kernel
theorem dX9_isOutbid_65 : decode cX9_isOutbid 65 = .ok (.iadd, 1) := by decide +kernel
theorem dX9_isOutbid_66 : decode cX9_isOutbid 66 = .ok (.iaload, 1) := by decide +kernel
theorem dX9_isOutbid_67 : decode cX9_isOutbid 67 = .ok (.iconst 3, 1) := by decide +kernel
theorem dX9_isOutbid_68 : decode cX9_isOutbid 68 = .ok (.if_icmp .ge 37, 3) := by decide +kernel
theorem dX9_isOutbid_71 : decode cX9_isOutbid 71 = .ok (.aload_n 0, 1) := by decide +kernel
theorem dX9_isOutbid_72 : decode cX9_isOutbid 72 = .ok (.iload 6, 2) := by decide +kernel
theorem dX9_isOutbid_74 : decode cX9_isOutbid 74 = .ok (.iload_n 2, 1) := by decide +kernel
theorem dX9_isOutbid_75 : decode cX9_isOutbid 75 = .ok (.invokevirtual 51, 3) := by decide +kernel
theorem dX9_isOutbid_78 : decode cX9_isOutbid 78 = .ok (.ifCond .eq 27, 3) := by decide +kernel
theorem dX9_isOutbid_81 : decode cX9_isOutbid 81 = .ok (.aload_n 0, 1) := by decide +kernel
theorem dX9_isOutbid_82 : decode cX9_isOutbid 82 = .ok (.getfield 7, 3) := by decide +kernel
theorem dX9_isOutbid_85 : decode cX9_isOutbid 85 = .ok (.iload 6, 2) := by decide +kernel
theorem dX9_isOutbid_87 : decode cX9_isOutbid 87 = .ok (.iconst 2, 1) := by decide +kernel
theorem dX9_isOutbid_88 : decode cX9_isOutbid 88 = .ok (.iadd, 1) := by decide +kernel
theorem dX9_isOutbid_89 : decode cX9_isOutbid 89 = .ok (.iaload, 1) := by decide +kernel
theorem dX9_isOutbid_90 : decode cX9_isOutbid 90 = .ok (.aload_n 0, 1) := by decide +kernel
theorem dX9_isOutbid_91 : decode cX9_isOutbid 91 = .ok (.getfield 7, 3) := by decide +kernel
theorem dX9_isOutbid_94 : decode cX9_isOutbid 94 = .ok (.iload_n 2, 1) := by decide +kernel
theorem dX9_isOutbid_95 : decode cX9_isOutbid 95 = .ok (.iconst 2, 1) := by decide +kernel
theorem dX9_isOutbid_96 : decode cX9_isOutbid 96 = .ok (.iadd, 1) := by decide +kernel
theorem dX9_isOutbid_97 : decode cX9_isOutbid 97 = .ok (.iaload, 1) := by decide +kernel
theorem dX9_isOutbid_98 : decode cX9_isOutbid 98 = .ok (.if_icmp .le 7, 3) := by decide +kernel
theorem dX9_isOutbid_101 : decode cX9_isOutbid 101 = .ok (.iconst 1, 1) := by decide +kernel
theorem dX9_isOutbid_102 : decode cX9_isOutbid 102 = .ok (.goto 4, 3) := by decide +kernel
theorem dX9_isOutbid_105 : decode cX9_isOutbid 105 = .ok (.iconst 0, 1) := by decide +kernel
theorem dX9_isOutbid_106 : decode cX9_isOutbid 106 = .ok (.istore_n 3, 1) := by decide +kernel
theorem dX9_isOutbid_107 : decode cX9_isOutbid 107 = .ok (.iinc 5 1, 3) := by decide +kernel
theorem dX9_isOutbid_110 : decode cX9_isOutbid 110 = .ok (.goto (-91), 3) := by decide +kernel
theorem dX9_isOutbid_113 : decode cX9_isOutbid 113 = .ok (.iinc 4 1, 3) := by decide +kernel
theorem dX9_isOutbid_116 : decode cX9_isOutbid 116 = .ok (.goto (-111), 3) := by decide +kernel
theorem dX9_isOutbid_119 : decode cX9_isOutbid 119 = .ok (.iload_n 3, 1) := by decide +kernel
theorem dX9_isOutbid_120 : decode cX9_isOutbid 120 = .ok (.ireturn, 1) := by decide +kernel
theorem dX9_probes_0 : decode cX9_probes 0 = .ok (.aload_n 0, 1) := by decide +kernel
theorem dX9_probes_1 : decode cX9_probes 1 = .ok (.getfield 7, 3) := by decide +kernel
theorem dX9_probes_4 : decode cX9_probes 4 = .ok (.iconst 3, 1) := by decide +kernel
theorem dX9_probes_5 : decode cX9_probes 5 = .ok (.dup2, 1) := by decide +kernel
theorem dX9_probes_6 : decode cX9_probes 6 = .ok (.iaload, 1) := by decide +kernel
theorem dX9_probes_7 : decode cX9_probes 7 = .ok (.iconst 1, 1) := by decide +kernel
theorem dX9_probes_8 : decode cX9_probes 8 = .ok (.iadd, 1) := by decide +kernel
theorem dX9_probes_9 : decode cX9_probes 9 = .ok (.iastore, 1) := by decide +kernel
theorem dX9_probes_10 : decode cX9_probes 10 = .ok (.aload_n 0, 1) := by decide +kernel
theorem dX9_probes_11 : decode cX9_probes 11 = .ok (.iload_n 1, 1) := by decide +kernel
theorem dX9_probes_12 : decode cX9_probes 12 = .ok (.iload_n 2, 1) := by decide +kernel
theorem dX9_probes_13 : decode cX9_probes 13 = .ok (.invokevirtual 162, 3) := by decide +kernel
theorem dX9_probes_16 : decode cX9_probes 16 = .ok (.ifCond .eq 55, 3) := by decide +kernel
theorem dX9_probes_19 : decode cX9_probes 19 = .ok (.aload_n 0, 1) := by decide +kernel
theorem dX9_probes_20 : decode cX9_probes 20 = .ok (.getfield 7, 3) := by decide +kernel
theorem dX9_probes_23 : decode cX9_probes 23 = .ok (.iload_n 2, 1) := by decide +kernel
theorem dX9_probes_24 : decode cX9_probes 24 = .ok (.iconst 0, 1) := by decide +kernel
theorem dX9_probes_25 : decode cX9_probes 25 = .ok (.iadd, 1) := by decide +kernel
theorem dX9_probes_26 : decode cX9_probes 26 = .ok (.aload_n 0, 1) := by decide +kernel
theorem dX9_probes_27 : decode cX9_probes 27 = .ok (.getfield 7, 3) := by decide +kernel
theorem dX9_probes_30 : decode cX9_probes 30 = .ok (.iload_n 2, 1) := by decide +kernel
theorem dX9_probes_31 : decode cX9_probes 31 = .ok (.iconst 0, 1) := by decide +kernel
theorem dX9_probes_32 : decode cX9_probes 32 = .ok (.iadd, 1) := by decide +kernel
theorem dX9_probes_33 : decode cX9_probes 33 = .ok (.iaload, 1) := by decide +kernel
theorem dX9_probes_34 : decode cX9_probes 34 = .ok (.iconst 1, 1) := by decide +kernel
theorem dX9_probes_35 : decode cX9_probes 35 = .ok (.iadd, 1) := by decide +kernel
theorem dX9_probes_36 : decode cX9_probes 36 = .ok (.bipush 16, 2) := by decide +kernel
theorem dX9_probes_38 : decode cX9_probes 38 = .ok (.irem, 1) := by decide +kernel
theorem dX9_probes_39 : decode cX9_probes 39 = .ok (.iastore, 1) := by decide +kernel
theorem dX9_probes_40 : decode cX9_probes 40 = .ok (.aload_n 0, 1) := by decide +kernel
theorem dX9_probes_41 : decode cX9_probes 41 = .ok (.getfield 7, 3) := by decide +kernel
theorem dX9_probes_44 : decode cX9_probes 44 = .ok (.iload_n 2, 1) := by decide +kernel
theorem dX9_probes_45 : decode cX9_probes 45 = .ok (.iconst 4, 1) := by decide +kernel
theorem dX9_probes_46 : decode cX9_probes 46 = .ok (.iadd, 1) := by decide +kernel
theorem dX9_probes_47 : decode cX9_probes 47 = .ok (.iconst 0, 1) := by decide +kernel
theorem dX9_probes_48 : decode cX9_probes 48 = .ok (.iastore, 1) := by decide +kernel
theorem dX9_probes_49 : decode cX9_probes 49 = .ok (.aload_n 0, 1) := by decide +kernel
theorem dX9_probes_50 : decode cX9_probes 50 = .ok (.getfield 7, 3) := by decide +kernel
theorem dX9_probes_53 : decode cX9_probes 53 = .ok (.iload_n 2, 1) := by decide +kernel
theorem dX9_probes_54 : decode cX9_probes 54 = .ok (.iconst 5, 1) := by decide +kernel
theorem dX9_probes_55 : decode cX9_probes 55 = .ok (.iadd, 1) := by decide +kernel
theorem dX9_probes_56 : decode cX9_probes 56 = .ok (.iconst 0, 1) := by decide +kernel
theorem dX9_probes_57 : decode cX9_probes 57 = .ok (.iastore, 1) := by decide +kernel
theorem dX9_probes_58 : decode cX9_probes 58 = .ok (.aload_n 0, 1) := by decide +kernel
theorem dX9_probes_59 : decode cX9_probes 59 = .ok (.getfield 7, 3) := by decide +kernel
theorem dX9_probes_62 : decode cX9_probes 62 = .ok (.iconst 4, 1) := by decide +kernel
theorem dX9_probes_63 : decode cX9_probes 63 = .ok (.dup2, 1) := by decide +kernel
theorem dX9_probes_64 : decode cX9_probes 64 = .ok (.iaload, 1) := by decide +kernel
theorem dX9_probes_65 : decode cX9_probes 65 = .ok (.iconst 1, 1) := by decide +kernel
theorem dX9_probes_66 : decode cX9_probes 66 = .ok (.iadd, 1) := by decide +kernel
theorem dX9_probes_67 : decode cX9_probes 67 = .ok (.iastore, 1) := by decide +kernel
theorem dX9_probes_68 : decode cX9_probes 68 = .ok (.goto 63, 3) := by decide +kernel
theorem dX9_probes_71 : decode cX9_probes 71 = .ok (.aload_n 0, 1) := by decide +kernel
theorem dX9_probes_72 : decode cX9_probes 72 = .ok (.iload_n 1, 1) := by decide +kernel
theorem dX9_probes_73 : decode cX9_probes 73 = .ok (.iload_n 2, 1) := by decide +kernel
theorem dX9_probes_74 : decode cX9_probes 74 = .ok (.invokevirtual 165, 3) := by decide +kernel
theorem dX9_probes_77 : decode cX9_probes 77 = .ok (.ifCond .eq 24, 3) := by decide +kernel
theorem dX9_probes_80 : decode cX9_probes 80 = .ok (.aload_n 0, 1) := by decide +kernel
theorem dX9_probes_81 : decode cX9_probes 81 = .ok (.getfield 7, 3) := by decide +kernel
theorem dX9_probes_84 : decode cX9_probes 84 = .ok (.iload_n 2, 1) := by decide +kernel
theorem dX9_probes_85 : decode cX9_probes 85 = .ok (.iconst 4, 1) := by decide +kernel
theorem dX9_probes_86 : decode cX9_probes 86 = .ok (.iadd, 1) := by decide +kernel
theorem dX9_probes_87 : decode cX9_probes 87 = .ok (.iconst 0, 1) := by decide +kernel
theorem dX9_probes_88 : decode cX9_probes 88 = .ok (.iastore, 1) := by decide +kernel
theorem dX9_probes_89 : decode cX9_probes 89 = .ok (.aload_n 0, 1) := by decide +kernel
theorem dX9_probes_90 : decode cX9_probes 90 = .ok (.getfield 7, 3) := by decide +kernel
theorem dX9_probes_93 : decode cX9_probes 93 = .ok (.iload_n 2, 1) := by decide +kernel
theorem dX9_probes_94 : decode cX9_probes 94 = .ok (.iconst 5, 1) := by decide +kernel
theorem dX9_probes_95 : decode cX9_probes 95 = .ok (.iadd, 1) := by decide +kernel
theorem dX9_probes_96 : decode cX9_probes 96 = .ok (.iconst 1, 1) := by decide +kernel
theorem dX9_probes_97 : decode cX9_probes 97 = .ok (.iastore, 1) := by decide +kernel
theorem dX9_probes_98 : decode cX9_probes 98 = .ok (.goto 33, 3) := by decide +kernel
theorem dX9_probes_101 : decode cX9_probes 101 = .ok (.aload_n 0, 1) := by decide +kernel
theorem dX9_probes_102 : decode cX9_probes 102 = .ok (.getfield 7, 3) := by decide +kernel
theorem dX9_probes_105 : decode cX9_probes 105 = .ok (.iload_n 2, 1) := by decide +kernel
theorem dX9_probes_106 : decode cX9_probes 106 = .ok (.iconst 4, 1) := by decide +kernel
theorem dX9_probes_107 : decode cX9_probes 107 = .ok (.iadd, 1) := by decide +kernel
theorem dX9_probes_108 : decode cX9_probes 108 = .ok (.dup2, 1) := by decide +kernel
theorem dX9_probes_109 : decode cX9_probes 109 = .ok (.iaload, 1) := by decide +kernel
theorem dX9_probes_110 : decode cX9_probes 110 = .ok (.iconst 1, 1) := by decide +kernel
theorem dX9_probes_111 : decode cX9_probes 111 = .ok (.iadd, 1) := by decide +kernel
theorem dX9_probes_112 : decode cX9_probes 112 = .ok (.iastore, 1) := by decide +kernel
theorem dX9_probes_113 : decode cX9_probes 113 = .ok (.aload_n 0, 1) := by decide +kernel
theorem dX9_probes_114 : decode cX9_probes 114 = .ok (.getfield 7, 3) := by decide +kernel
theorem dX9_probes_117 : decode cX9_probes 117 = .ok (.iload_n 2, 1) := by decide +kernel
theorem dX9_probes_118 : decode cX9_probes 118 = .ok (.iconst 4, 1) := by decide +kernel
theorem dX9_probes_119 : decode cX9_probes 119 = .ok (.iadd, 1) := by decide +kernel
theorem dX9_probes_120 : decode cX9_probes 120 = .ok (.iaload, 1) := by decide +kernel
theorem dX9_probes_121 : decode cX9_probes 121 = .ok (.iconst 3, 1) := by decide +kernel
theorem dX9_probes_122 : decode cX9_probes 122 = .ok (.if_icmp .ne 9, 3) := by decide +kernel
theorem dX9_probes_125 : decode cX9_probes 125 = .ok (.aload_n 0, 1) := by decide +kernel
theorem dX9_probes_126 : decode cX9_probes 126 = .ok (.iload_n 1, 1) := by decide +kernel
theorem dX9_probes_127 : decode cX9_probes 127 = .ok (.iload_n 2, 1) := by decide +kernel
theorem dX9_probes_128 : decode cX9_probes 128 = .ok (.invokevirtual 122, 3) := by decide +kernel
theorem dX9_probes_131 : decode cX9_probes 131 = .ok (.return_, 1) := by decide +kernel
theorem dX9_ticksOne_0 : decode cX9_ticksOne 0 = .ok (.aload_n 0, 1) := by decide +kernel
theorem dX9_ticksOne_1 : decode cX9_ticksOne 1 = .ok (.invokevirtual 168, 3) := by decide +kernel
theorem dX9_ticksOne_4 : decode cX9_ticksOne 4 = .ok (.iconst 0, 1) := by decide +kernel
theorem dX9_ticksOne_5 : decode cX9_ticksOne 5 = .ok (.istore_n 1, 1) := by decide +kernel
theorem dX9_ticksOne_6 : decode cX9_ticksOne 6 = .ok (.iload_n 1, 1) := by decide +kernel
theorem dX9_ticksOne_7 : decode cX9_ticksOne 7 = .ok (.aload_n 0, 1) := by decide +kernel
theorem dX9_ticksOne_8 : decode cX9_ticksOne 8 = .ok (.getfield 7, 3) := by decide +kernel
theorem dX9_ticksOne_11 : decode cX9_ticksOne 11 = .ok (.iconst 0, 1) := by decide +kernel
theorem dX9_ticksOne_12 : decode cX9_ticksOne 12 = .ok (.iaload, 1) := by decide +kernel
theorem dX9_ticksOne_13 : decode cX9_ticksOne 13 = .ok (.if_icmp .ge 84, 3) := by decide +kernel
theorem dX9_ticksOne_16 : decode cX9_ticksOne 16 = .ok (.iconst 0, 1) := by decide +kernel
theorem dX9_ticksOne_17 : decode cX9_ticksOne 17 = .ok (.istore_n 2, 1) := by decide +kernel
theorem dX9_ticksOne_18 : decode cX9_ticksOne 18 = .ok (.iload_n 2, 1) := by decide +kernel
theorem dX9_ticksOne_19 : decode cX9_ticksOne 19 = .ok (.aload_n 0, 1) := by decide +kernel
theorem dX9_ticksOne_20 : decode cX9_ticksOne 20 = .ok (.iload_n 1, 1) := by decide +kernel
theorem dX9_ticksOne_21 : decode cX9_ticksOne 21 = .ok (.invokevirtual 73, 3) := by decide +kernel
theorem dX9_ticksOne_24 : decode cX9_ticksOne 24 = .ok (.if_icmp .ge 67, 3) := by decide +kernel
theorem dX9_ticksOne_27 : decode cX9_ticksOne 27 = .ok (.aload_n 0, 1) := by decide +kernel
theorem dX9_ticksOne_28 : decode cX9_ticksOne 28 = .ok (.iload_n 1, 1) := by decide +kernel
theorem dX9_ticksOne_29 : decode cX9_ticksOne 29 = .ok (.invokevirtual 59, 3) := by decide +kernel
theorem dX9_ticksOne_32 : decode cX9_ticksOne 32 = .ok (.ifCond .eq 59, 3) := by decide +kernel
theorem dX9_ticksOne_35 : decode cX9_ticksOne 35 = .ok (.iload_n 1, 1) := by decide +kernel
theorem dX9_ticksOne_36 : decode cX9_ticksOne 36 = .ok (.iload_n 2, 1) := by decide +kernel
theorem dX9_ticksOne_37 : decode cX9_ticksOne 37 = .ok (.invokestatic 55, 3) := by decide +kernel
theorem dX9_ticksOne_40 : decode cX9_ticksOne 40 = .ok (.istore_n 3, 1) := by decide +kernel
theorem dX9_ticksOne_41 : decode cX9_ticksOne 41 = .ok (.aload_n 0, 1) := by decide +kernel
theorem dX9_ticksOne_42 : decode cX9_ticksOne 42 = .ok (.getfield 7, 3) := by decide +kernel
theorem dX9_ticksOne_45 : decode cX9_ticksOne 45 = .ok (.iload_n 3, 1) := by decide +kernel
theorem dX9_ticksOne_46 : decode cX9_ticksOne 46 = .ok (.iconst 4, 1) := by decide +kernel
theorem dX9_ticksOne_47 : decode cX9_ticksOne 47 = .ok (.iadd, 1) := by decide +kernel
theorem dX9_ticksOne_48 : decode cX9_ticksOne 48 = .ok (.iaload, 1) := by decide +kernel
theorem dX9_ticksOne_49 : decode cX9_ticksOne 49 = .ok (.iconst 3, 1) := by decide +kernel
theorem dX9_ticksOne_50 : decode cX9_ticksOne 50 = .ok (.if_icmp .ge 35, 3) := by decide +kernel
theorem dX9_ticksOne_53 : decode cX9_ticksOne 53 = .ok (.aload_n 0, 1) := by decide +kernel
theorem dX9_ticksOne_54 : decode cX9_ticksOne 54 = .ok (.getfield 7, 3) := by decide +kernel
theorem dX9_ticksOne_57 : decode cX9_ticksOne 57 = .ok (.iload_n 3, 1) := by decide +kernel
theorem dX9_ticksOne_58 : decode cX9_ticksOne 58 = .ok (.iconst 5, 1) := by decide +kernel
theorem dX9_ticksOne_59 : decode cX9_ticksOne 59 = .ok (.iadd, 1) := by decide +kernel
theorem dX9_ticksOne_60 : decode cX9_ticksOne 60 = .ok (.iaload, 1) := by decide +kernel
theorem dX9_ticksOne_61 : decode cX9_ticksOne 61 = .ok (.ifCond .le 18, 3) := by decide +kernel
theorem dX9_ticksOne_64 : decode cX9_ticksOne 64 = .ok (.aload_n 0, 1) := by decide +kernel
theorem dX9_ticksOne_65 : decode cX9_ticksOne 65 = .ok (.getfield 7, 3) := by decide +kernel
theorem dX9_ticksOne_68 : decode cX9_ticksOne 68 = .ok (.iload_n 3, 1) := by decide +kernel
theorem dX9_ticksOne_69 : decode cX9_ticksOne 69 = .ok (.iconst 5, 1) := by decide +kernel
theorem dX9_ticksOne_70 : decode cX9_ticksOne 70 = .ok (.iadd, 1) := by decide +kernel
theorem dX9_ticksOne_71 : decode cX9_ticksOne 71 = .ok (.dup2, 1) := by decide +kernel
theorem dX9_ticksOne_72 : decode cX9_ticksOne 72 = .ok (.iaload, 1) := by decide +kernel
theorem dX9_ticksOne_73 : decode cX9_ticksOne 73 = .ok (.iconst 1, 1) := by decide +kernel
theorem dX9_ticksOne_74 : decode cX9_ticksOne 74 = .ok (.isub, 1) := by decide +kernel
theorem dX9_ticksOne_75 : decode cX9_ticksOne 75 = .ok (.iastore, 1) := by decide +kernel
theorem dX9_ticksOne_76 : decode cX9_ticksOne 76 = .ok (.goto 9, 3) := by decide +kernel
theorem dX9_ticksOne_79 : decode cX9_ticksOne 79 = .ok (.aload_n 0, 1) := by decide +kernel
theorem dX9_ticksOne_80 : decode cX9_ticksOne 80 = .ok (.iload_n 1, 1) := by decide +kernel
theorem dX9_ticksOne_81 : decode cX9_ticksOne 81 = .ok (.iload_n 3, 1) := by decide +kernel
theorem dX9_ticksOne_82 : decode cX9_ticksOne 82 = .ok (.invokevirtual 171, 3) := by decide +kernel
theorem dX9_ticksOne_85 : decode cX9_ticksOne 85 = .ok (.iinc 2 1, 3) := by decide +kernel
theorem dX9_ticksOne_88 : decode cX9_ticksOne 88 = .ok (.goto (-70), 3) := by decide +kernel
theorem dX9_ticksOne_91 : decode cX9_ticksOne 91 = .ok (.iinc 1 1, 3) := by decide +kernel
theorem dX9_ticksOne_94 : decode cX9_ticksOne 94 = .ok (.goto (-88), 3) := by decide +kernel
theorem dX9_ticksOne_97 : decode cX9_ticksOne 97 = .ok (.aload_n 0, 1) := by decide +kernel
theorem dX9_ticksOne_98 : decode cX9_ticksOne 98 = .ok (.getfield 43, 3) := by decide +kernel
theorem dX9_ticksOne_101 : decode cX9_ticksOne 101 = .ok (.ldc 174, 2) := by decide +kernel
theorem dX9_ticksOne_103 : decode cX9_ticksOne 103 = .ok (.fmul, 1) := by decide +kernel
theorem dX9_ticksOne_104 : decode cX9_ticksOne 104 = .ok (.fstore_n 1, 1) := by decide +kernel
theorem dX9_ticksOne_105 : decode cX9_ticksOne 105 = .ok (.aload_n 0, 1) := by decide +kernel
theorem dX9_ticksOne_106 : decode cX9_ticksOne 106 = .ok (.getfield 7, 3) := by decide +kernel
theorem dX9_ticksOne_109 : decode cX9_ticksOne 109 = .ok (.iconst 2, 1) := by decide +kernel
theorem dX9_ticksOne_110 : decode cX9_ticksOne 110 = .ok (.iaload, 1) := by decide +kernel
theorem dX9_ticksOne_111 : decode cX9_ticksOne 111 = .ok (.aload_n 0, 1) := by decide +kernel
theorem dX9_ticksOne_112 : decode cX9_ticksOne 112 = .ok (.getfield 7, 3) := by decide +kernel
theorem dX9_ticksOne_115 : decode cX9_ticksOne 115 = .ok (.bipush 6, 2) := by decide +kernel
theorem dX9_ticksOne_117 : decode cX9_ticksOne 117 = .ok (.iaload, 1) := by decide +kernel
theorem dX9_ticksOne_118 : decode cX9_ticksOne 118 = .ok (.isub, 1) := by decide +kernel
theorem dX9_ticksOne_119 : decode cX9_ticksOne 119 = .ok (.i2f, 1) := by decide +kernel
theorem dX9_ticksOne_120 : decode cX9_ticksOne 120 = .ok (.ldc 175, 2) := by decide +kernel
theorem dX9_ticksOne_122 : decode cX9_ticksOne 122 = .ok (.fmul, 1) := by decide +kernel
theorem dX9_ticksOne_123 : decode cX9_ticksOne 123 = .ok (.fstore_n 2, 1) := by decide +kernel
theorem dX9_ticksOne_124 : decode cX9_ticksOne 124 = .ok (.aload_n 0, 1) := by decide +kernel
theorem dX9_ticksOne_125 : decode cX9_ticksOne 125 = .ok (.fload_n 1, 1) := by decide +kernel
theorem dX9_ticksOne_126 : decode cX9_ticksOne 126 = .ok (.fload_n 2, 1) := by decide +kernel
theorem dX9_ticksOne_127 : decode cX9_ticksOne 127 = .ok (.fadd, 1) := by decide +kernel
theorem dX9_ticksOne_128 : decode cX9_ticksOne 128 = .ok (.putfield 43, 3) := by decide +kernel
theorem dX9_ticksOne_131 : decode cX9_ticksOne 131 = .ok (.aload_n 0, 1) := by decide +kernel
theorem dX9_ticksOne_132 : decode cX9_ticksOne 132 = .ok (.getfield 7, 3) := by decide +kernel
theorem dX9_ticksOne_135 : decode cX9_ticksOne 135 = .ok (.bipush 6, 2) := by decide +kernel
theorem dX9_ticksOne_137 : decode cX9_ticksOne 137 = .ok (.aload_n 0, 1) := by decide +kernel
theorem dX9_ticksOne_138 : decode cX9_ticksOne 138 = .ok (.getfield 7, 3) := by decide +kernel
theorem dX9_ticksOne_141 : decode cX9_ticksOne 141 = .ok (.iconst 2, 1) := by decide +kernel
theorem dX9_ticksOne_142 : decode cX9_ticksOne 142 = .ok (.iaload, 1) := by decide +kernel
theorem dX9_ticksOne_143 : decode cX9_ticksOne 143 = .ok (.iastore, 1) := by decide +kernel
theorem dX9_ticksOne_144 : decode cX9_ticksOne 144 = .ok (.return_, 1) := by decide +kernel
theorem dX9_tickNow_0 : decode cX9_tickNow 0 = .ok (.aload_n 0, 1) := by decide +kernel
theorem dX9_tickNow_1 : decode cX9_tickNow 1 = .ok (.getfield 7, 3) := by decide +kernel
theorem dX9_tickNow_4 : decode cX9_tickNow 4 = .ok (.iconst 2, 1) := by decide +kernel
theorem dX9_tickNow_5 : decode cX9_tickNow 5 = .ok (.iaload, 1) := by decide +kernel
theorem dX9_tickNow_6 : decode cX9_tickNow 6 = .ok (.istore_n 2, 1) := by decide +kernel
theorem dX9_tickNow_7 : decode cX9_tickNow 7 = .ok (.iconst 0, 1) := by decide +kernel
theorem dX9_tickNow_8 : decode cX9_tickNow 8 = .ok (.istore_n 3, 1) := by decide +kernel
theorem dX9_tickNow_9 : decode cX9_tickNow 9 = .ok (.iload_n 3, 1) := by decide +kernel
theorem dX9_tickNow_10 : decode cX9_tickNow 10 = .ok (.iload_n 1, 1) := by decide +kernel
theorem dX9_tickNow_11 : decode cX9_tickNow 11 = .ok (.if_icmp .ge 13, 3) := by decide +kernel
theorem dX9_tickNow_14 : decode cX9_tickNow 14 = .ok (.aload_n 0, 1) := by decide +kernel
theorem dX9_tickNow_15 : decode cX9_tickNow 15 = .ok (.invokevirtual 176, 3) := by decide +kernel
theorem dX9_tickNow_18 : decode cX9_tickNow 18 = .ok (.iinc 3 1, 3) := by decide +kernel
theorem dX9_tickNow_21 : decode cX9_tickNow 21 = .ok (.goto (-12), 3) := by decide +kernel
theorem dX9_tickNow_24 : decode cX9_tickNow 24 = .ok (.aload_n 0, 1) := by decide +kernel
theorem dX9_tickNow_25 : decode cX9_tickNow 25 = .ok (.getfield 7, 3) := by decide +kernel
theorem dX9_tickNow_28 : decode cX9_tickNow 28 = .ok (.iconst 2, 1) := by decide +kernel
theorem dX9_tickNow_29 : decode cX9_tickNow 29 = .ok (.iaload, 1) := by decide +kernel
theorem dX9_tickNow_30 : decode cX9_tickNow 30 = .ok (.iload_n 2, 1) := by decide +kernel
theorem dX9_tickNow_31 : decode cX9_tickNow 31 = .ok (.isub, 1) := by decide +kernel
theorem dX9_tickNow_32 : decode cX9_tickNow 32 = .ok (.ireturn, 1) := by decide +kernel
theorem dX9_ticks_0 : decode cX9_ticks 0 = .ok (.iload_n 1, 1) := by decide +kernel
theorem dX9_ticks_1 : decode cX9_ticks 1 = .ok (.i2l, 1) := by decide +kernel
theorem dX9_ticks_2 : decode cX9_ticks 2 = .ok (.lconst 1, 1) := by decide +kernel
theorem dX9_ticks_3 : decode cX9_ticks 3 = .ok (.ldc2_w 120, 3) := by decide +kernel
theorem dX9_ticks_6 : decode cX9_ticks 6 = .ok (.invokestatic 47, 3) := by decide +kernel
theorem dX9_ticks_9 : decode cX9_ticks 9 = .ok (.ifCond .ne 10, 3) := by decide +kernel
theorem dX9_ticks_12 : decode cX9_ticks 12 = .ok (.aload_n 0, 1) := by decide +kernel
theorem dX9_ticks_13 : decode cX9_ticks 13 = .ok (.bipush (-2), 2) := by decide +kernel
theorem dX9_ticks_15 : decode cX9_ticks 15 = .ok (.invokevirtual 97, 3) := by decide +kernel
theorem dX9_ticks_18 : decode cX9_ticks 18 = .ok (.ireturn, 1) := by decide +kernel
theorem dX9_ticks_19 : decode cX9_ticks 19 = .ok (.aload_n 0, 1) := by decide +kernel
theorem dX9_ticks_20 : decode cX9_ticks 20 = .ok (.invokevirtual 100, 3) := by decide +kernel
theorem dX9_ticks_23 : decode cX9_ticks 23 = .ok (.aload_n 0, 1) := by decide +kernel
theorem dX9_ticks_24 : decode cX9_ticks 24 = .ok (.iload_n 1, 1) := by decide +kernel
theorem dX9_ticks_25 : decode cX9_ticks 25 = .ok (.invokevirtual 179, 3) := by decide +kernel
theorem dX9_ticks_28 : decode cX9_ticks 28 = .ok (.ireturn, 1) := by decide +kernel
theorem dX9_rateBits_0 : decode cX9_rateBits 0 = .ok (.aload_n 0, 1) := by decide +kernel
theorem dX9_rateBits_1 : decode cX9_rateBits 1 = .ok (.getfield 43, 3) := by decide +kernel
theorem dX9_rateBits_4 : decode cX9_rateBits 4 = .ok (.invokestatic 182, 3) := by decide +kernel
theorem dX9_rateBits_7 : decode cX9_rateBits 7 = .ok (.ireturn, 1) := by decide +kernel
theorem dX9_rate_0 : decode cX9_rate 0 = .ok (.aload_n 0, 1) := by decide +kernel
theorem dX9_rate_1 : decode cX9_rate 1 = .ok (.invokevirtual 188, 3) := by decide +kernel
theorem dX9_rate_4 : decode cX9_rate 4 = .ok (.ireturn, 1) := by decide +kernel
theorem dX9_canAsk_0 : decode cX9_canAsk 0 = .ok (.aload_n 0, 1) := by decide +kernel
theorem dX9_canAsk_1 : decode cX9_canAsk 1 = .ok (.iload_n 1, 1) := by decide +kernel
theorem dX9_canAsk_2 : decode cX9_canAsk 2 = .ok (.invokevirtual 110, 3) := by decide +kernel
theorem dX9_canAsk_5 : decode cX9_canAsk 5 = .ok (.ifCond .eq 11, 3) := by decide +kernel
theorem dX9_canAsk_8 : decode cX9_canAsk 8 = .ok (.iload_n 2, 1) := by decide +kernel
theorem dX9_canAsk_9 : decode cX9_canAsk 9 = .ok (.iload_n 3, 1) := by decide +kernel
theorem dX9_canAsk_10 : decode cX9_canAsk 10 = .ok (.invokestatic 113, 3) := by decide +kernel
theorem dX9_canAsk_13 : decode cX9_canAsk 13 = .ok (.ifCond .ne 8, 3) := by decide +kernel
theorem dX9_canAsk_16 : decode cX9_canAsk 16 = .ok (.bipush (-2), 2) := by decide +kernel
theorem dX9_canAsk_18 : decode cX9_canAsk 18 = .ok (.goto 17, 3) := by decide +kernel
theorem dX9_canAsk_21 : decode cX9_canAsk 21 = .ok (.aload_n 0, 1) := by decide +kernel
theorem dX9_canAsk_22 : decode cX9_canAsk 22 = .ok (.iload_n 1, 1) := by decide +kernel
theorem dX9_canAsk_23 : decode cX9_canAsk 23 = .ok (.invokevirtual 59, 3) := by decide +kernel
theorem dX9_canAsk_26 : decode cX9_canAsk 26 = .ok (.ifCond .eq 7, 3) := by decide +kernel
theorem dX9_canAsk_29 : decode cX9_canAsk 29 = .ok (.iconst 0, 1) := by decide +kernel
theorem dX9_canAsk_30 : decode cX9_canAsk 30 = .ok (.goto 5, 3) := by decide +kernel
theorem dX9_canAsk_33 : decode cX9_canAsk 33 = .ok (.bipush (-3), 2) := by decide +kernel
theorem dX9_canAsk_35 : decode cX9_canAsk 35 = .ok (.ireturn, 1) := by decide +kernel
theorem dX9_askNow_0 : decode cX9_askNow 0 = .ok (.aload_n 0, 1) := by decide +kernel
theorem dX9_askNow_1 : decode cX9_askNow 1 = .ok (.getfield 7, 3) := by decide +kernel
theorem dX9_askNow_4 : decode cX9_askNow 4 = .ok (.iconst 2, 1) := by decide +kernel
theorem dX9_askNow_5 : decode cX9_askNow 5 = .ok (.iaload, 1) := by decide +kernel
theorem dX9_askNow_6 : decode cX9_askNow 6 = .ok (.istore 4, 2) := by decide +kernel
theorem dX9_askNow_8 : decode cX9_askNow 8 = .ok (.iconst 0, 1) := by decide +kernel
theorem dX9_askNow_9 : decode cX9_askNow 9 = .ok (.istore 5, 2) := by decide +kernel
theorem dX9_askNow_11 : decode cX9_askNow 11 = .ok (.iload 5, 2) := by decide +kernel
theorem dX9_askNow_13 : decode cX9_askNow 13 = .ok (.sipush 256, 3) := by decide +kernel
theorem dX9_askNow_16 : decode cX9_askNow 16 = .ok (.if_icmp .ge 17, 3) := by decide +kernel
theorem dX9_askNow_19 : decode cX9_askNow 19 = .ok (.aload_n 0, 1) := by decide +kernel
theorem dX9_askNow_20 : decode cX9_askNow 20 = .ok (.getfield 26, 3) := by decide +kernel
theorem dX9_askNow_23 : decode cX9_askNow 23 = .ok (.iload 5, 2) := by decide +kernel
theorem dX9_askNow_25 : decode cX9_askNow 25 = .ok (.iconst 0, 1) := by decide +kernel
theorem dX9_askNow_26 : decode cX9_askNow 26 = .ok (.bastore, 1) := by decide +kernel
theorem dX9_askNow_27 : decode cX9_askNow 27 = .ok (.iinc 5 1, 3) := by decide +kernel
theorem dX9_askNow_30 : decode cX9_askNow 30 = .ok (.goto (-19), 3) := by decide +kernel
theorem dX9_askNow_33 : decode cX9_askNow 33 = .ok (.iconst 0, 1) := by decide +kernel
theorem dX9_askNow_34 : decode cX9_askNow 34 = .ok (.istore 5, 2) := by decide +kernel
theorem dX9_askNow_36 : decode cX9_askNow 36 = .ok (.iload 5, 2) := by decide +kernel
theorem dX9_askNow_38 : decode cX9_askNow 38 = .ok (.aload_n 0, 1) := by decide +kernel
theorem dX9_askNow_39 : decode cX9_askNow 39 = .ok (.iload_n 1, 1) := by decide +kernel
theorem dX9_askNow_40 : decode cX9_askNow 40 = .ok (.invokevirtual 70, 3) := by decide +kernel
theorem dX9_askNow_43 : decode cX9_askNow 43 = .ok (.if_icmp .ge 121, 3) := by decide +kernel
theorem dX9_askNow_46 : decode cX9_askNow 46 = .ok (.iload_n 1, 1) := by decide +kernel
theorem dX9_askNow_47 : decode cX9_askNow 47 = .ok (.iload 5, 2) := by decide +kernel
theorem dX9_askNow_49 : decode cX9_askNow 49 = .ok (.invokestatic 67, 3) := by decide +kernel
theorem dX9_askNow_52 : decode cX9_askNow 52 = .ok (.istore 6, 2) := by decide +kernel
theorem dX9_askNow_54 : decode cX9_askNow 54 = .ok (.aload_n 0, 1) := by decide +kernel
theorem dX9_askNow_55 : decode cX9_askNow 55 = .ok (.getfield 7, 3) := by decide +kernel
theorem dX9_askNow_58 : decode cX9_askNow 58 = .ok (.iload 6, 2) := by decide +kernel
theorem dX9_askNow_60 : decode cX9_askNow 60 = .ok (.iconst 0, 1) := by decide +kernel
theorem dX9_askNow_61 : decode cX9_askNow 61 = .ok (.iadd, 1) := by decide +kernel
theorem dX9_askNow_62 : decode cX9_askNow 62 = .ok (.iaload, 1) := by decide +kernel
theorem dX9_askNow_63 : decode cX9_askNow 63 = .ok (.iload_n 2, 1) := by decide +kernel
theorem dX9_askNow_64 : decode cX9_askNow 64 = .ok (.if_icmp .ne 20, 3) := by decide +kernel
theorem dX9_askNow_67 : decode cX9_askNow 67 = .ok (.aload_n 0, 1) := by decide +kernel
theorem dX9_askNow_68 : decode cX9_askNow 68 = .ok (.getfield 7, 3) := by decide +kernel
theorem dX9_askNow_71 : decode cX9_askNow 71 = .ok (.iload 6, 2) := by decide +kernel
theorem dX9_askNow_73 : decode cX9_askNow 73 = .ok (.iconst 1, 1) := by decide +kernel
theorem dX9_askNow_74 : decode cX9_askNow 74 = .ok (.iadd, 1) := by decide +kernel
theorem dX9_askNow_75 : decode cX9_askNow 75 = .ok (.iaload, 1) := by decide +kernel
theorem dX9_askNow_76 : decode cX9_askNow 76 = .ok (.iload_n 3, 1) := by decide +kernel
theorem dX9_askNow_77 : decode cX9_askNow 77 = .ok (.if_icmp .ne 7, 3) := by decide +kernel
theorem dX9_askNow_80 : decode cX9_askNow 80 = .ok (.iconst 1, 1) := by decide +kernel
theorem dX9_askNow_81 : decode cX9_askNow 81 = .ok (.goto 4, 3) := by decide +kernel
theorem dX9_askNow_84 : decode cX9_askNow 84 = .ok (.iconst 0, 1) := by decide +kernel
theorem dX9_askNow_85 : decode cX9_askNow 85 = .ok (.istore 7, 2) := by decide +kernel
theorem dX9_askNow_87 : decode cX9_askNow 87 = .ok (.aload_n 0, 1) := by decide +kernel
theorem dX9_askNow_88 : decode cX9_askNow 88 = .ok (.getfield 26, 3) := by decide +kernel
theorem dX9_askNow_91 : decode cX9_askNow 91 = .ok (.aload_n 0, 1) := by decide +kernel
theorem dX9_askNow_92 : decode cX9_askNow 92 = .ok (.getfield 7, 3) := by decide +kernel
theorem dX9_askNow_95 : decode cX9_askNow 95 = .ok (.iload 6, 2) := by decide +kernel
theorem dX9_askNow_97 : decode cX9_askNow 97 = .ok (.iconst 2, 1) := by decide +kernel
theorem dX9_askNow_98 : decode cX9_askNow 98 = .ok (.iadd, 1) := by decide +kernel
theorem dX9_askNow_99 : decode cX9_askNow 99 = .ok (.iaload, 1) := by decide +kernel
theorem dX9_askNow_100 : decode cX9_askNow 100 = .ok (.aload_n 0, 1) := by decide +kernel
theorem dX9_askNow_101 : decode cX9_askNow 101 = .ok (.getfield 26, 3) := by decide +kernel
theorem dX9_askNow_104 : decode cX9_askNow 104 = .ok (.aload_n 0, 1) := by decide +kernel
theorem dX9_askNow_105 : decode cX9_askNow 105 = .ok (.getfield 7, 3) := by decide +kernel
theorem dX9_askNow_108 : decode cX9_askNow 108 = .ok (.iload 6, 2) := by decide +kernel
theorem dX9_askNow_110 : decode cX9_askNow 110 = .ok (.iconst 2, 1) := by decide +kernel
theorem dX9_askNow_111 : decode cX9_askNow 111 = .ok (.iadd, 1) := by decide +kernel
theorem dX9_askNow_112 : decode cX9_askNow 112 = .ok (.iaload, 1) := by decide +kernel
theorem dX9_askNow_113 : decode cX9_askNow 113 = .ok (.baload, 1) := by decide +kernel
theorem dX9_askNow_114 : decode cX9_askNow 114 = .ok (.ifCond .ne 38, 3) := by decide +kernel
theorem dX9_askNow_117 : decode cX9_askNow 117 = .ok (.iload 7, 2) := by decide +kernel
theorem dX9_askNow_119 : decode cX9_askNow 119 = .ok (.ifCond .eq 37, 3) := by decide +kernel
theorem dX9_askNow_122 : decode cX9_askNow 122 = .ok (.iconst 2, 1) := by decide +kernel
theorem dX9_askNow_123 : decode cX9_askNow 123 = .ok (.aload_n 0, 1) := by decide +kernel
theorem dX9_askNow_124 : decode cX9_askNow 124 = .ok (.getfield 7, 3) := by decide +kernel
theorem dX9_askNow_127 : decode cX9_askNow 127 = .ok (.iload 6, 2) := by decide +kernel
theorem dX9_askNow_129 : decode cX9_askNow 129 = .ok (.iconst 4, 1) := by decide +kernel
theorem dX9_askNow_130 : decode cX9_askNow 130 = .ok (.iadd, 1) := by decide +kernel
theorem dX9_askNow_131 : decode cX9_askNow 131 = .ok (.iaload, 1) := by decide +kernel
theorem dX9_askNow_132 : decode cX9_askNow 132 = .ok (.aload_n 0, 1) := by decide +kernel
theorem dX9_askNow_133 : decode cX9_askNow 133 = .ok (.getfield 7, 3) := by decide +kernel
theorem dX9_askNow_136 : decode cX9_askNow 136 = .ok (.iconst 1, 1) := by decide +kernel
theorem dX9_askNow_137 : decode cX9_askNow 137 = .ok (.iaload, 1) := by decide +kernel
theorem dX9_askNow_138 : decode cX9_askNow 138 = .ok (.isub, 1) := by decide +kernel
theorem dX9_askNow_139 : decode cX9_askNow 139 = .ok (.imul, 1) := by decide +kernel
theorem dX9_askNow_140 : decode cX9_askNow 140 = .ok (.aload_n 0, 1) := by decide +kernel
theorem dX9_askNow_141 : decode cX9_askNow 141 = .ok (.getfield 7, 3) := by decide +kernel
theorem dX9_askNow_144 : decode cX9_askNow 144 = .ok (.iload 6, 2) := by decide +kernel
theorem dX9_askNow_146 : decode cX9_askNow 146 = .ok (.iconst 3, 1) := by decide +kernel
theorem dX9_askNow_147 : decode cX9_askNow 147 = .ok (.iadd, 1) := by decide +kernel
theorem dX9_askNow_148 : decode cX9_askNow 148 = .ok (.iaload, 1) := by decide +kernel
theorem dX9_askNow_149 : decode cX9_askNow 149 = .ok (.if_icmp .lt 7, 3) := by decide +kernel
theorem dX9_askNow_152 : decode cX9_askNow 152 = .ok (.iconst 1, 1) := by decide +kernel
theorem dX9_askNow_153 : decode cX9_askNow 153 = .ok (.goto 4, 3) := by decide +kernel
theorem dX9_askNow_156 : decode cX9_askNow 156 = .ok (.iconst 0, 1) := by decide +kernel
theorem dX9_askNow_157 : decode cX9_askNow 157 = .ok (.bastore, 1) := by decide +kernel
theorem dX9_askNow_158 : decode cX9_askNow 158 = .ok (.iinc 5 1, 3) := by decide +kernel
theorem dX9_askNow_161 : decode cX9_askNow 161 = .ok (.goto (-125), 3) := by decide +kernel
theorem dX9_askNow_164 : decode cX9_askNow 164 = .ok (.iconst 0, 1) := by decide +kernel
theorem dX9_askNow_165 : decode cX9_askNow 165 = .ok (.istore 5, 2) := by decide +kernel
theorem dX9_askNow_167 : decode cX9_askNow 167 = .ok (.iload 5, 2) := by decide +kernel
theorem dX9_askNow_169 : decode cX9_askNow 169 = .ok (.aload_n 0, 1) := by decide +kernel
theorem dX9_askNow_170 : decode cX9_askNow 170 = .ok (.getfield 7, 3) := by decide +kernel
theorem dX9_askNow_173 : decode cX9_askNow 173 = .ok (.iconst 0, 1) := by decide +kernel
theorem dX9_askNow_174 : decode cX9_askNow 174 = .ok (.iaload, 1) := by decide +kernel
theorem dX9_askNow_175 : decode cX9_askNow 175 = .ok (.if_icmp .ge 185, 3) := by decide +kernel
theorem dX9_askNow_178 : decode cX9_askNow 178 = .ok (.aload_n 0, 1) := by decide +kernel
theorem dX9_askNow_179 : decode cX9_askNow 179 = .ok (.iload 5, 2) := by decide +kernel
theorem dX9_askNow_181 : decode cX9_askNow 181 = .ok (.invokevirtual 59, 3) := by decide +kernel
theorem dX9_askNow_184 : decode cX9_askNow 184 = .ok (.ifCond .eq 8, 3) := by decide +kernel
theorem dX9_askNow_187 : decode cX9_askNow 187 = .ok (.iload 5, 2) := by decide +kernel
theorem dX9_askNow_189 : decode cX9_askNow 189 = .ok (.goto 9, 3) := by decide +kernel
theorem dX9_askNow_192 : decode cX9_askNow 192 = .ok (.aload_n 0, 1) := by decide +kernel
theorem dX9_askNow_193 : decode cX9_askNow 193 = .ok (.iload 5, 2) := by decide +kernel
theorem dX9_askNow_195 : decode cX9_askNow 195 = .ok (.invokevirtual 63, 3) := by decide +kernel
theorem dX9_askNow_198 : decode cX9_askNow 198 = .ok (.istore 6, 2) := by decide +kernel
theorem dX9_askNow_200 : decode cX9_askNow 200 = .ok (.iload 5, 2) := by decide +kernel
theorem dX9_askNow_202 : decode cX9_askNow 202 = .ok (.iload_n 1, 1) := by decide +kernel
theorem dX9_askNow_203 : decode cX9_askNow 203 = .ok (.if_icmp .eq 22, 3) := by decide +kernel
theorem dX9_askNow_206 : decode cX9_askNow 206 = .ok (.iload 6, 2) := by decide +kernel
theorem dX9_askNow_208 : decode cX9_askNow 208 = .ok (.iconst (-1), 1) := by decide +kernel
theorem dX9_askNow_209 : decode cX9_askNow 209 = .ok (.if_icmp .eq 16, 3) := by decide +kernel
theorem dX9_askNow_212 : decode cX9_askNow 212 = .ok (.aload_n 0, 1) := by decide +kernel
theorem dX9_askNow_213 : decode cX9_askNow 213 = .ok (.iload 6, 2) := by decide +kernel
theorem dX9_askNow_215 : decode cX9_askNow 215 = .ok (.invokevirtual 59, 3) := by decide +kernel
theorem dX9_askNow_218 : decode cX9_askNow 218 = .ok (.ifCond .eq 7, 3) := by decide +kernel
theorem dX9_askNow_221 : decode cX9_askNow 221 = .ok (.iconst 1, 1) := by decide +kernel
theorem dX9_askNow_222 : decode cX9_askNow 222 = .ok (.goto 4, 3) := by decide +kernel
theorem dX9_askNow_225 : decode cX9_askNow 225 = .ok (.iconst 0, 1) := by decide +kernel
theorem dX9_askNow_226 : decode cX9_askNow 226 = .ok (.istore 7, 2) := by decide +kernel
theorem dX9_askNow_228 : decode cX9_askNow 228 = .ok (.iconst 0, 1) := by decide +kernel
theorem dX9_askNow_229 : decode cX9_askNow 229 = .ok (.istore 8, 2) := by decide +kernel
theorem dX9_askNow_231 : decode cX9_askNow 231 = .ok (.iload 8, 2) := by decide +kernel
theorem dX9_askNow_233 : decode cX9_askNow 233 = .ok (.aload_n 0, 1) := by decide +kernel
theorem dX9_askNow_234 : decode cX9_askNow 234 = .ok (.iload 5, 2) := by decide +kernel
theorem dX9_askNow_236 : decode cX9_askNow 236 = .ok (.invokevirtual 73, 3) := by decide +kernel
theorem dX9_askNow_239 : decode cX9_askNow 239 = .ok (.if_icmp .ge 115, 3) := by decide +kernel
theorem dX9_askNow_242 : decode cX9_askNow 242 = .ok (.iload 7, 2) := by decide +kernel
theorem dX9_askNow_244 : decode cX9_askNow 244 = .ok (.ifCond .eq 110, 3) := by decide +kernel
theorem dX9_askNow_247 : decode cX9_askNow 247 = .ok (.iload 5, 2) := by decide +kernel
theorem dX9_askNow_249 : decode cX9_askNow 249 = .ok (.iload 8, 2) := by decide +kernel
theorem dX9_askNow_251 : decode cX9_askNow 251 = .ok (.invokestatic 55, 3) := by decide +kernel
theorem dX9_askNow_254 : decode cX9_askNow 254 = .ok (.istore 9, 2) := by decide +kernel
theorem dX9_askNow_256 : decode cX9_askNow 256 = .ok (.aload_n 0, 1) := by decide +kernel
theorem dX9_askNow_257 : decode cX9_askNow 257 = .ok (.getfield 7, 3) := by decide +kernel
theorem dX9_askNow_260 : decode cX9_askNow 260 = .ok (.iload 9, 2) := by decide +kernel
theorem dX9_askNow_262 : decode cX9_askNow 262 = .ok (.iconst 4, 1) := by decide +kernel
theorem dX9_askNow_263 : decode cX9_askNow 263 = .ok (.iadd, 1) := by decide +kernel
theorem dX9_askNow_264 : decode cX9_askNow 264 = .ok (.iaload, 1) := by decide +kernel
theorem dX9_askNow_265 : decode cX9_askNow 265 = .ok (.iconst 3, 1) := by decide +kernel
theorem dX9_askNow_266 : decode cX9_askNow 266 = .ok (.if_icmp .ne 82, 3) := by decide +kernel
theorem dX9_askNow_269 : decode cX9_askNow 269 = .ok (.aload_n 0, 1) := by decide +kernel
theorem dX9_askNow_270 : decode cX9_askNow 270 = .ok (.getfield 7, 3) := by decide +kernel
theorem dX9_askNow_273 : decode cX9_askNow 273 = .ok (.iload 9, 2) := by decide +kernel
theorem dX9_askNow_275 : decode cX9_askNow 275 = .ok (.iconst 0, 1) := by decide +kernel
theorem dX9_askNow_276 : decode cX9_askNow 276 = .ok (.iadd, 1) := by decide +kernel
theorem dX9_askNow_277 : decode cX9_askNow 277 = .ok (.iaload, 1) := by decide +kernel
theorem dX9_askNow_278 : decode cX9_askNow 278 = .ok (.iload_n 2, 1) := by decide +kernel
theorem dX9_askNow_279 : decode cX9_askNow 279 = .ok (.if_icmp .ne 69, 3) := by decide +kernel
theorem dX9_askNow_282 : decode cX9_askNow 282 = .ok (.aload_n 0, 1) := by decide +kernel
theorem dX9_askNow_283 : decode cX9_askNow 283 = .ok (.getfield 7, 3) := by decide +kernel
theorem dX9_askNow_286 : decode cX9_askNow 286 = .ok (.iload 9, 2) := by decide +kernel
theorem dX9_askNow_288 : decode cX9_askNow 288 = .ok (.iconst 1, 1) := by decide +kernel
theorem dX9_askNow_289 : decode cX9_askNow 289 = .ok (.iadd, 1) := by decide +kernel
theorem dX9_askNow_290 : decode cX9_askNow 290 = .ok (.iaload, 1) := by decide +kernel
theorem dX9_askNow_291 : decode cX9_askNow 291 = .ok (.iload_n 3, 1) := by decide +kernel
theorem dX9_askNow_292 : decode cX9_askNow 292 = .ok (.if_icmp .ne 56, 3) := by decide +kernel
theorem dX9_askNow_295 : decode cX9_askNow 295 = .ok (.aload_n 0, 1) := by decide +kernel
theorem dX9_askNow_296 : decode cX9_askNow 296 = .ok (.getfield 26, 3) := by decide +kernel
theorem dX9_askNow_299 : decode cX9_askNow 299 = .ok (.aload_n 0, 1) := by decide +kernel
theorem dX9_askNow_300 : decode cX9_askNow 300 = .ok (.getfield 7, 3) := by decide +kernel
theorem dX9_askNow_303 : decode cX9_askNow 303 = .ok (.iload 9, 2) := by decide +kernel
theorem dX9_askNow_305 : decode cX9_askNow 305 = .ok (.iconst 2, 1) := by decide +kernel
theorem dX9_askNow_306 : decode cX9_askNow 306 = .ok (.iadd, 1) := by decide +kernel
theorem dX9_askNow_307 : decode cX9_askNow 307 = .ok (.iaload, 1) := by decide +kernel
theorem dX9_askNow_308 : decode cX9_askNow 308 = .ok (.baload, 1) := by decide +kernel
theorem dX9_askNow_309 : decode cX9_askNow 309 = .ok (.ifCond .eq 16, 3) := by decide +kernel
theorem dX9_askNow_312 : decode cX9_askNow 312 = .ok (.aload_n 0, 1) := by decide +kernel
theorem dX9_askNow_313 : decode cX9_askNow 313 = .ok (.getfield 7, 3) := by decide +kernel
theorem dX9_askNow_316 : decode cX9_askNow 316 = .ok (.iconst 5, 1) := by decide +kernel
theorem dX9_askNow_317 : decode cX9_askNow 317 = .ok (.dup2, 1) := by decide +kernel
theorem dX9_askNow_318 : decode cX9_askNow 318 = .ok (.iaload, 1) := by decide +kernel
theorem dX9_askNow_319 : decode cX9_askNow 319 = .ok (.iconst 1, 1) := by decide +kernel
theorem dX9_askNow_320 : decode cX9_askNow 320 = .ok (.iadd, 1) := by decide +kernel
theorem dX9_askNow_321 : decode cX9_askNow 321 = .ok (.iastore, 1) := by decide +kernel
theorem dX9_askNow_322 : decode cX9_askNow 322 = .ok (.goto 26, 3) := by decide +kernel
theorem dX9_askNow_325 : decode cX9_askNow 325 = .ok (.aload_n 0, 1) := by decide +kernel
theorem dX9_askNow_326 : decode cX9_askNow 326 = .ok (.getfield 26, 3) := by decide +kernel
theorem dX9_askNow_329 : decode cX9_askNow 329 = .ok (.aload_n 0, 1) := by decide +kernel
theorem dX9_askNow_330 : decode cX9_askNow 330 = .ok (.getfield 7, 3) := by decide +kernel
theorem dX9_askNow_333 : decode cX9_askNow 333 = .ok (.iload 9, 2) := by decide +kernel
theorem dX9_askNow_335 : decode cX9_askNow 335 = .ok (.iconst 2, 1) := by decide +kernel
theorem dX9_askNow_336 : decode cX9_askNow 336 = .ok (.iadd, 1) := by decide +kernel
theorem dX9_askNow_337 : decode cX9_askNow 337 = .ok (.iaload, 1) := by decide +kernel
theorem dX9_askNow_338 : decode cX9_askNow 338 = .ok (.iconst 1, 1) := by decide +kernel
theorem dX9_askNow_339 : decode cX9_askNow 339 = .ok (.bastore, 1) := by decide +kernel
theorem dX9_askNow_340 : decode cX9_askNow 340 = .ok (.aload_n 0, 1) := by decide +kernel
theorem dX9_askNow_341 : decode cX9_askNow 341 = .ok (.iload 6, 2) := by decide +kernel
theorem dX9_askNow_343 : decode cX9_askNow 343 = .ok (.iload 9, 2) := by decide +kernel
theorem dX9_askNow_345 : decode cX9_askNow 345 = .ok (.invokevirtual 122, 3) := by decide +kernel
theorem dX9_askNow_348 : decode cX9_askNow 348 = .ok (.iinc 8 1, 3) := by decide +kernel
theorem dX9_askNow_351 : decode cX9_askNow 351 = .ok (.goto (-120), 3) := by decide +kernel
theorem dX9_askNow_354 : decode cX9_askNow 354 = .ok (.iinc 5 1, 3) := by decide +kernel
theorem dX9_askNow_357 : decode cX9_askNow 357 = .ok (.goto (-190), 3) := by decide +kernel
theorem dX9_askNow_360 : decode cX9_askNow 360 = .ok (.aload_n 0, 1) := by decide +kernel
theorem dX9_askNow_361 : decode cX9_askNow 361 = .ok (.getfield 7, 3) := by decide +kernel
theorem dX9_askNow_364 : decode cX9_askNow 364 = .ok (.iconst 2, 1) := by decide +kernel
theorem dX9_askNow_365 : decode cX9_askNow 365 = .ok (.iaload, 1) := by decide +kernel
theorem dX9_askNow_366 : decode cX9_askNow 366 = .ok (.iload 4, 2) := by decide +kernel
theorem dX9_askNow_368 : decode cX9_askNow 368 = .ok (.isub, 1) := by decide +kernel
theorem dX9_askNow_369 : decode cX9_askNow 369 = .ok (.ireturn, 1) := by decide +kernel
theorem dX9_asks_0 : decode cX9_asks 0 = .ok (.aload_n 0, 1) := by decide +kernel
theorem dX9_asks_1 : decode cX9_asks 1 = .ok (.iload_n 1, 1) := by decide +kernel
theorem dX9_asks_2 : decode cX9_asks 2 = .ok (.iload_n 2, 1) := by decide +kernel
theorem dX9_asks_3 : decode cX9_asks 3 = .ok (.iload_n 3, 1) := by decide +kernel
theorem dX9_asks_4 : decode cX9_asks 4 = .ok (.invokevirtual 191, 3) := by decide +kernel
theorem dX9_asks_7 : decode cX9_asks 7 = .ok (.istore 4, 2) := by decide +kernel
theorem dX9_asks_9 : decode cX9_asks 9 = .ok (.iload 4, 2) := by decide +kernel
theorem dX9_asks_11 : decode cX9_asks 11 = .ok (.ifCond .ge 10, 3) := by decide +kernel
theorem dX9_asks_14 : decode cX9_asks 14 = .ok (.aload_n 0, 1) := by decide +kernel
theorem dX9_asks_15 : decode cX9_asks 15 = .ok (.iload 4, 2) := by decide +kernel
theorem dX9_asks_17 : decode cX9_asks 17 = .ok (.invokevirtual 97, 3) := by decide +kernel
theorem dX9_asks_20 : decode cX9_asks 20 = .ok (.ireturn, 1) := by decide +kernel
theorem dX9_asks_21 : decode cX9_asks 21 = .ok (.aload_n 0, 1) := by decide +kernel
theorem dX9_asks_22 : decode cX9_asks 22 = .ok (.invokevirtual 100, 3) := by decide +kernel
theorem dX9_asks_25 : decode cX9_asks 25 = .ok (.aload_n 0, 1) := by decide +kernel
theorem dX9_asks_26 : decode cX9_asks 26 = .ok (.iload_n 1, 1) := by decide +kernel
theorem dX9_asks_27 : decode cX9_asks 27 = .ok (.iload_n 2, 1) := by decide +kernel
theorem dX9_asks_28 : decode cX9_asks 28 = .ok (.iload_n 3, 1) := by decide +kernel
theorem dX9_asks_29 : decode cX9_asks 29 = .ok (.invokevirtual 194, 3) := by decide +kernel
theorem dX9_asks_32 : decode cX9_asks 32 = .ok (.ireturn, 1) := by decide +kernel
theorem dX9_entryNow_0 : decode cX9_entryNow 0 = .ok (.aload_n 0, 1) := by decide +kernel
theorem dX9_entryNow_1 : decode cX9_entryNow 1 = .ok (.getfield 7, 3) := by decide +kernel
theorem dX9_entryNow_4 : decode cX9_entryNow 4 = .ok (.iload_n 1, 1) := by decide +kernel
theorem dX9_entryNow_5 : decode cX9_entryNow 5 = .ok (.iload_n 2, 1) := by decide +kernel
theorem dX9_entryNow_6 : decode cX9_entryNow 6 = .ok (.invokestatic 67, 3) := by decide +kernel
theorem dX9_entryNow_9 : decode cX9_entryNow 9 = .ok (.iload_n 3, 1) := by decide +kernel
theorem dX9_entryNow_10 : decode cX9_entryNow 10 = .ok (.iadd, 1) := by decide +kernel
theorem dX9_entryNow_11 : decode cX9_entryNow 11 = .ok (.iaload, 1) := by decide +kernel
theorem dX9_entryNow_12 : decode cX9_entryNow 12 = .ok (.iload_n 3, 1) := by decide +kernel
theorem dX9_entryNow_13 : decode cX9_entryNow 13 = .ok (.iconst 4, 1) := by decide +kernel
theorem dX9_entryNow_14 : decode cX9_entryNow 14 = .ok (.if_icmp .ne 12, 3) := by decide +kernel
theorem dX9_entryNow_17 : decode cX9_entryNow 17 = .ok (.aload_n 0, 1) := by decide +kernel
theorem dX9_entryNow_18 : decode cX9_entryNow 18 = .ok (.getfield 7, 3) := by decide +kernel
theorem dX9_entryNow_21 : decode cX9_entryNow 21 = .ok (.iconst 1, 1) := by decide +kernel
theorem dX9_entryNow_22 : decode cX9_entryNow 22 = .ok (.iaload, 1) := by decide +kernel
theorem dX9_entryNow_23 : decode cX9_entryNow 23 = .ok (.goto 4, 3) := by decide +kernel
theorem dX9_entryNow_26 : decode cX9_entryNow 26 = .ok (.iconst 0, 1) := by decide +kernel
theorem dX9_entryNow_27 : decode cX9_entryNow 27 = .ok (.isub, 1) := by decide +kernel
theorem dX9_entryNow_28 : decode cX9_entryNow 28 = .ok (.ireturn, 1) := by decide +kernel
theorem dX9_entry_0 : decode cX9_entry 0 = .ok (.aload_n 0, 1) := by decide +kernel
theorem dX9_entry_1 : decode cX9_entry 1 = .ok (.iload_n 1, 1) := by decide +kernel
theorem dX9_entry_2 : decode cX9_entry 2 = .ok (.invokevirtual 110, 3) := by decide +kernel
theorem dX9_entry_5 : decode cX9_entry 5 = .ok (.ifCond .eq 19, 3) := by decide +kernel
theorem dX9_entry_8 : decode cX9_entry 8 = .ok (.iload_n 2, 1) := by decide +kernel
theorem dX9_entry_9 : decode cX9_entry 9 = .ok (.ifCond .lt 15, 3) := by decide +kernel
theorem dX9_entry_12 : decode cX9_entry 12 = .ok (.iload_n 3, 1) := by decide +kernel
theorem dX9_entry_13 : decode cX9_entry 13 = .ok (.i2l, 1) := by decide +kernel
theorem dX9_entry_14 : decode cX9_entry 14 = .ok (.lconst 0, 1) := by decide +kernel
theorem dX9_entry_15 : decode cX9_entry 15 = .ok (.ldc2_w 197, 3) := by decide +kernel
theorem dX9_entry_18 : decode cX9_entry 18 = .ok (.invokestatic 47, 3) := by decide +kernel
theorem dX9_entry_21 : decode cX9_entry 21 = .ok (.ifCond .ne 10, 3) := by decide +kernel
theorem dX9_entry_24 : decode cX9_entry 24 = .ok (.aload_n 0, 1) := by decide +kernel
theorem dX9_entry_25 : decode cX9_entry 25 = .ok (.bipush (-2), 2) := by decide +kernel
theorem dX9_entry_27 : decode cX9_entry 27 = .ok (.invokevirtual 97, 3) := by decide +kernel
theorem dX9_entry_30 : decode cX9_entry 30 = .ok (.ireturn, 1) := by decide +kernel
theorem dX9_entry_31 : decode cX9_entry 31 = .ok (.iload_n 2, 1) := by decide +kernel
theorem dX9_entry_32 : decode cX9_entry 32 = .ok (.aload_n 0, 1) := by decide +kernel
theorem dX9_entry_33 : decode cX9_entry 33 = .ok (.iload_n 1, 1) := by decide +kernel
theorem dX9_entry_34 : decode cX9_entry 34 = .ok (.invokevirtual 70, 3) := by decide +kernel
theorem dX9_entry_37 : decode cX9_entry 37 = .ok (.if_icmp .ge 13, 3) := by decide +kernel
theorem dX9_entry_40 : decode cX9_entry 40 = .ok (.aload_n 0, 1) := by decide +kernel
theorem dX9_entry_41 : decode cX9_entry 41 = .ok (.iload_n 1, 1) := by decide +kernel
theorem dX9_entry_42 : decode cX9_entry 42 = .ok (.iload_n 2, 1) := by decide +kernel
theorem dX9_entry_43 : decode cX9_entry 43 = .ok (.iload_n 3, 1) := by decide +kernel
theorem dX9_entry_44 : decode cX9_entry 44 = .ok (.invokevirtual 199, 3) := by decide +kernel
theorem dX9_entry_47 : decode cX9_entry 47 = .ok (.goto 4, 3) := by decide +kernel
theorem dX9_entry_50 : decode cX9_entry 50 = .ok (.iconst (-1), 1) := by decide +kernel
theorem dX9_entry_51 : decode cX9_entry 51 = .ok (.ireturn, 1) := by decide +kernel
theorem dX9_findsNow_0 : decode cX9_findsNow 0 = .ok (.iconst (-1), 1) := by decide +kernel
theorem dX9_findsNow_1 : decode cX9_findsNow 1 = .ok (.istore 5, 2) := by decide +kernel
theorem dX9_findsNow_3 : decode cX9_findsNow 3 = .ok (.iconst 0, 1) := by decide +kernel
theorem dX9_findsNow_4 : decode cX9_findsNow 4 = .ok (.istore 6, 2) := by decide +kernel
theorem dX9_findsNow_6 : decode cX9_findsNow 6 = .ok (.iconst (-1), 1) := by decide +kernel
theorem dX9_findsNow_7 : decode cX9_findsNow 7 = .ok (.istore 7, 2) := by decide +kernel
theorem dX9_findsNow_9 : decode cX9_findsNow 9 = .ok (.iconst 0, 1) := by decide +kernel
theorem dX9_findsNow_10 : decode cX9_findsNow 10 = .ok (.istore 8, 2) := by decide +kernel
theorem dX9_findsNow_12 : decode cX9_findsNow 12 = .ok (.iload 8, 2) := by decide +kernel
theorem dX9_findsNow_14 : decode cX9_findsNow 14 = .ok (.aload_n 0, 1) := by decide +kernel
theorem dX9_findsNow_15 : decode cX9_findsNow 15 = .ok (.iload_n 1, 1) := by decide +kernel
theorem dX9_findsNow_16 : decode cX9_findsNow 16 = .ok (.invokevirtual 70, 3) := by decide +kernel
theorem dX9_findsNow_19 : decode cX9_findsNow 19 = .ok (.if_icmp .ge 91, 3) := by decide +kernel
theorem dX9_findsNow_22 : decode cX9_findsNow 22 = .ok (.iload_n 1, 1) := by decide +kernel
theorem dX9_findsNow_23 : decode cX9_findsNow 23 = .ok (.iload 8, 2) := by decide +kernel
theorem dX9_findsNow_25 : decode cX9_findsNow 25 = .ok (.invokestatic 67, 3) := by decide +kernel
theorem dX9_findsNow_28 : decode cX9_findsNow 28 = .ok (.istore 9, 2) := by decide +kernel
theorem dX9_findsNow_30 : decode cX9_findsNow 30 = .ok (.aload_n 0, 1) := by decide +kernel
theorem dX9_findsNow_31 : decode cX9_findsNow 31 = .ok (.getfield 7, 3) := by decide +kernel
theorem dX9_findsNow_34 : decode cX9_findsNow 34 = .ok (.iload 9, 2) := by decide +kernel
theorem dX9_findsNow_36 : decode cX9_findsNow 36 = .ok (.iconst 0, 1) := by decide +kernel
theorem dX9_findsNow_37 : decode cX9_findsNow 37 = .ok (.iadd, 1) := by decide +kernel
theorem dX9_findsNow_38 : decode cX9_findsNow 38 = .ok (.iaload, 1) := by decide +kernel
theorem dX9_findsNow_39 : decode cX9_findsNow 39 = .ok (.iload_n 2, 1) := by decide +kernel
theorem dX9_findsNow_40 : decode cX9_findsNow 40 = .ok (.if_icmp .ne 64, 3) := by decide +kernel
theorem dX9_findsNow_43 : decode cX9_findsNow 43 = .ok (.aload_n 0, 1) := by decide +kernel
theorem dX9_findsNow_44 : decode cX9_findsNow 44 = .ok (.getfield 7, 3) := by decide +kernel
theorem dX9_findsNow_47 : decode cX9_findsNow 47 = .ok (.iload 9, 2) := by decide +kernel
theorem dX9_findsNow_49 : decode cX9_findsNow 49 = .ok (.iconst 1, 1) := by decide +kernel
theorem dX9_findsNow_50 : decode cX9_findsNow 50 = .ok (.iadd, 1) := by decide +kernel
theorem dX9_findsNow_51 : decode cX9_findsNow 51 = .ok (.iaload, 1) := by decide +kernel
theorem dX9_findsNow_52 : decode cX9_findsNow 52 = .ok (.iload_n 3, 1) := by decide +kernel
theorem dX9_findsNow_53 : decode cX9_findsNow 53 = .ok (.if_icmp .ne 51, 3) := by decide +kernel
theorem dX9_findsNow_56 : decode cX9_findsNow 56 = .ok (.aload_n 0, 1) := by decide +kernel
theorem dX9_findsNow_57 : decode cX9_findsNow 57 = .ok (.getfield 7, 3) := by decide +kernel
theorem dX9_findsNow_60 : decode cX9_findsNow 60 = .ok (.iload 9, 2) := by decide +kernel
theorem dX9_findsNow_62 : decode cX9_findsNow 62 = .ok (.iconst 2, 1) := by decide +kernel
theorem dX9_findsNow_63 : decode cX9_findsNow 63 = .ok (.iadd, 1) := by decide +kernel
theorem dX9_findsNow_64 : decode cX9_findsNow 64 = .ok (.iaload, 1) := by decide +kernel
theorem dX9_findsNow_65 : decode cX9_findsNow 65 = .ok (.istore 5, 2) := by decide +kernel
theorem dX9_findsNow_67 : decode cX9_findsNow 67 = .ok (.iinc 6 1, 3) := by decide +kernel
theorem dX9_findsNow_70 : decode cX9_findsNow 70 = .ok (.aload_n 0, 1) := by decide +kernel
theorem dX9_findsNow_71 : decode cX9_findsNow 71 = .ok (.getfield 7, 3) := by decide +kernel
theorem dX9_findsNow_74 : decode cX9_findsNow 74 = .ok (.iload 9, 2) := by decide +kernel
theorem dX9_findsNow_76 : decode cX9_findsNow 76 = .ok (.iconst 4, 1) := by decide +kernel
theorem dX9_findsNow_77 : decode cX9_findsNow 77 = .ok (.iadd, 1) := by decide +kernel
theorem dX9_findsNow_78 : decode cX9_findsNow 78 = .ok (.iaload, 1) := by decide +kernel
theorem dX9_findsNow_79 : decode cX9_findsNow 79 = .ok (.aload_n 0, 1) := by decide +kernel
theorem dX9_findsNow_80 : decode cX9_findsNow 80 = .ok (.getfield 7, 3) := by decide +kernel
theorem dX9_findsNow_83 : decode cX9_findsNow 83 = .ok (.iconst 1, 1) := by decide +kernel
theorem dX9_findsNow_84 : decode cX9_findsNow 84 = .ok (.iaload, 1) := by decide +kernel
theorem dX9_findsNow_85 : decode cX9_findsNow 85 = .ok (.isub, 1) := by decide +kernel
theorem dX9_findsNow_86 : decode cX9_findsNow 86 = .ok (.istore 10, 2) := by decide +kernel
theorem dX9_findsNow_88 : decode cX9_findsNow 88 = .ok (.iload 10, 2) := by decide +kernel
theorem dX9_findsNow_90 : decode cX9_findsNow 90 = .ok (.iload 7, 2) := by decide +kernel
theorem dX9_findsNow_92 : decode cX9_findsNow 92 = .ok (.if_icmp .le 8, 3) := by decide +kernel
theorem dX9_findsNow_95 : decode cX9_findsNow 95 = .ok (.iload 10, 2) := by decide +kernel
theorem dX9_findsNow_97 : decode cX9_findsNow 97 = .ok (.goto 5, 3) := by decide +kernel
theorem dX9_findsNow_100 : decode cX9_findsNow 100 = .ok (.iload 7, 2) := by decide +kernel
theorem dX9_findsNow_102 : decode cX9_findsNow 102 = .ok (.istore 7, 2) := by decide +kernel
theorem dX9_findsNow_104 : decode cX9_findsNow 104 = .ok (.iinc 8 1, 3) := by decide +kernel
theorem dX9_findsNow_107 : decode cX9_findsNow 107 = .ok (.goto (-95), 3) := by decide +kernel
theorem dX9_findsNow_110 : decode cX9_findsNow 110 = .ok (.iload 4, 2) := by decide +kernel
theorem dX9_findsNow_112 : decode cX9_findsNow 112 = .ok (.ifCond .ne 8, 3) := by decide +kernel
theorem dX9_findsNow_115 : decode cX9_findsNow 115 = .ok (.iload 5, 2) := by decide +kernel
theorem dX9_findsNow_117 : decode cX9_findsNow 117 = .ok (.goto 16, 3) := by decide +kernel
theorem dX9_findsNow_120 : decode cX9_findsNow 120 = .ok (.iload 4, 2) := by decide +kernel
theorem dX9_findsNow_122 : decode cX9_findsNow 122 = .ok (.iconst 1, 1) := by decide +kernel
theorem dX9_findsNow_123 : decode cX9_findsNow 123 = .ok (.if_icmp .ne 8, 3) := by decide +kernel
theorem dX9_findsNow_126 : decode cX9_findsNow 126 = .ok (.iload 6, 2) := by decide +kernel
theorem dX9_findsNow_128 : decode cX9_findsNow 128 = .ok (.goto 5, 3) := by decide +kernel
theorem dX9_findsNow_131 : decode cX9_findsNow 131 = .ok (.iload 7, 2) := by decide +kernel
theorem dX9_findsNow_133 : decode cX9_findsNow 133 = .ok (.ireturn, 1) := by decide +kernel
theorem dX9_finds_0 : decode cX9_finds 0 = .ok (.aload_n 0, 1) := by decide +kernel
theorem dX9_finds_1 : decode cX9_finds 1 = .ok (.iload_n 1, 1) := by decide +kernel
theorem dX9_finds_2 : decode cX9_finds 2 = .ok (.invokevirtual 110, 3) := by decide +kernel
theorem dX9_finds_5 : decode cX9_finds 5 = .ok (.ifCond .eq 36, 3) := by decide +kernel
theorem dX9_finds_8 : decode cX9_finds 8 = .ok (.iload_n 2, 1) := by decide +kernel
theorem dX9_finds_9 : decode cX9_finds 9 = .ok (.iload_n 3, 1) := by decide +kernel
theorem dX9_finds_10 : decode cX9_finds 10 = .ok (.invokestatic 113, 3) := by decide +kernel
theorem dX9_finds_13 : decode cX9_finds 13 = .ok (.ifCond .eq 28, 3) := by decide +kernel
theorem dX9_finds_16 : decode cX9_finds 16 = .ok (.iload 4, 2) := by decide +kernel
theorem dX9_finds_18 : decode cX9_finds 18 = .ok (.i2l, 1) := by decide +kernel
theorem dX9_finds_19 : decode cX9_finds 19 = .ok (.lconst 0, 1) := by decide +kernel
theorem dX9_finds_20 : decode cX9_finds 20 = .ok (.ldc2_w 118, 3) := by decide +kernel
theorem dX9_finds_23 : decode cX9_finds 23 = .ok (.invokestatic 47, 3) := by decide +kernel
theorem dX9_finds_26 : decode cX9_finds 26 = .ok (.ifCond .eq 15, 3) := by decide +kernel
theorem dX9_finds_29 : decode cX9_finds 29 = .ok (.aload_n 0, 1) := by decide +kernel
theorem dX9_finds_30 : decode cX9_finds 30 = .ok (.iload_n 1, 1) := by decide +kernel
theorem dX9_finds_31 : decode cX9_finds 31 = .ok (.iload_n 2, 1) := by decide +kernel
theorem dX9_finds_32 : decode cX9_finds 32 = .ok (.iload_n 3, 1) := by decide +kernel
theorem dX9_finds_33 : decode cX9_finds 33 = .ok (.iload 4, 2) := by decide +kernel
theorem dX9_finds_35 : decode cX9_finds 35 = .ok (.invokevirtual 202, 3) := by decide +kernel
theorem dX9_finds_38 : decode cX9_finds 38 = .ok (.goto 9, 3) := by decide +kernel
theorem dX9_finds_41 : decode cX9_finds 41 = .ok (.aload_n 0, 1) := by decide +kernel
theorem dX9_finds_42 : decode cX9_finds 42 = .ok (.bipush (-2), 2) := by decide +kernel
theorem dX9_finds_44 : decode cX9_finds 44 = .ok (.invokevirtual 97, 3) := by decide +kernel
theorem dX9_finds_47 : decode cX9_finds 47 = .ok (.ireturn, 1) := by decide +kernel
theorem dX9_ownerNow_0 : decode cX9_ownerNow 0 = .ok (.iconst (-1), 1) := by decide +kernel
theorem dX9_ownerNow_1 : decode cX9_ownerNow 1 = .ok (.istore 4, 2) := by decide +kernel
theorem dX9_ownerNow_3 : decode cX9_ownerNow 3 = .ok (.iconst (-1), 1) := by decide +kernel
theorem dX9_ownerNow_4 : decode cX9_ownerNow 4 = .ok (.istore 5, 2) := by decide +kernel
theorem dX9_ownerNow_6 : decode cX9_ownerNow 6 = .ok (.iconst 0, 1) := by decide +kernel
theorem dX9_ownerNow_7 : decode cX9_ownerNow 7 = .ok (.istore 6, 2) := by decide +kernel
theorem dX9_ownerNow_9 : decode cX9_ownerNow 9 = .ok (.iconst 0, 1) := by decide +kernel
theorem dX9_ownerNow_10 : decode cX9_ownerNow 10 = .ok (.istore 7, 2) := by decide +kernel
theorem dX9_ownerNow_12 : decode cX9_ownerNow 12 = .ok (.iload 7, 2) := by decide +kernel
theorem dX9_ownerNow_14 : decode cX9_ownerNow 14 = .ok (.aload_n 0, 1) := by decide +kernel
theorem dX9_ownerNow_15 : decode cX9_ownerNow 15 = .ok (.getfield 7, 3) := by decide +kernel
theorem dX9_ownerNow_18 : decode cX9_ownerNow 18 = .ok (.iconst 0, 1) := by decide +kernel
theorem dX9_ownerNow_19 : decode cX9_ownerNow 19 = .ok (.iaload, 1) := by decide +kernel
theorem dX9_ownerNow_20 : decode cX9_ownerNow 20 = .ok (.if_icmp .ge 164, 3) := by decide +kernel
theorem dX9_ownerNow_23 : decode cX9_ownerNow 23 = .ok (.iconst 0, 1) := by decide +kernel
theorem dX9_ownerNow_24 : decode cX9_ownerNow 24 = .ok (.istore 8, 2) := by decide +kernel
theorem dX9_ownerNow_26 : decode cX9_ownerNow 26 = .ok (.iconst 0, 1) := by decide +kernel
theorem dX9_ownerNow_27 : decode cX9_ownerNow 27 = .ok (.istore 9, 2) := by decide +kernel
theorem dX9_ownerNow_29 : decode cX9_ownerNow 29 = .ok (.iload 9, 2) := by decide +kernel
theorem dX9_ownerNow_31 : decode cX9_ownerNow 31 = .ok (.aload_n 0, 1) := by decide +kernel
theorem dX9_ownerNow_32 : decode cX9_ownerNow 32 = .ok (.iload 7, 2) := by decide +kernel
theorem dX9_ownerNow_34 : decode cX9_ownerNow 34 = .ok (.invokevirtual 73, 3) := by decide +kernel
theorem dX9_ownerNow_37 : decode cX9_ownerNow 37 = .ok (.if_icmp .ge 126, 3) := by decide +kernel
theorem dX9_ownerNow_40 : decode cX9_ownerNow 40 = .ok (.iload 7, 2) := by decide +kernel
theorem dX9_ownerNow_42 : decode cX9_ownerNow 42 = .ok (.iload 9, 2) := by decide +kernel
theorem dX9_ownerNow_44 : decode cX9_ownerNow 44 = .ok (.invokestatic 55, 3) := by decide +kernel
theorem dX9_ownerNow_47 : decode cX9_ownerNow 47 = .ok (.istore 10, 2) := by decide +kernel
theorem dX9_ownerNow_49 : decode cX9_ownerNow 49 = .ok (.aload_n 0, 1) := by decide +kernel
theorem dX9_ownerNow_50 : decode cX9_ownerNow 50 = .ok (.iload 7, 2) := by decide +kernel
theorem dX9_ownerNow_52 : decode cX9_ownerNow 52 = .ok (.iload 9, 2) := by decide +kernel
theorem dX9_ownerNow_54 : decode cX9_ownerNow 54 = .ok (.invokevirtual 142, 3) := by decide +kernel
theorem dX9_ownerNow_57 : decode cX9_ownerNow 57 = .ok (.ifCond .eq 33, 3) := by decide +kernel
theorem dX9_ownerNow_60 : decode cX9_ownerNow 60 = .ok (.aload_n 0, 1) := by decide +kernel
theorem dX9_ownerNow_61 : decode cX9_ownerNow 61 = .ok (.getfield 7, 3) := by decide +kernel
theorem dX9_ownerNow_64 : decode cX9_ownerNow 64 = .ok (.iload 10, 2) := by decide +kernel
theorem dX9_ownerNow_66 : decode cX9_ownerNow 66 = .ok (.iconst 0, 1) := by decide +kernel
theorem dX9_ownerNow_67 : decode cX9_ownerNow 67 = .ok (.iadd, 1) := by decide +kernel
theorem dX9_ownerNow_68 : decode cX9_ownerNow 68 = .ok (.iaload, 1) := by decide +kernel
theorem dX9_ownerNow_69 : decode cX9_ownerNow 69 = .ok (.iload_n 1, 1) := by decide +kernel
theorem dX9_ownerNow_70 : decode cX9_ownerNow 70 = .ok (.if_icmp .ne 20, 3) := by decide +kernel
theorem dX9_ownerNow_73 : decode cX9_ownerNow 73 = .ok (.aload_n 0, 1) := by decide +kernel
theorem dX9_ownerNow_74 : decode cX9_ownerNow 74 = .ok (.getfield 7, 3) := by decide +kernel
theorem dX9_ownerNow_77 : decode cX9_ownerNow 77 = .ok (.iload 10, 2) := by decide +kernel
theorem dX9_ownerNow_79 : decode cX9_ownerNow 79 = .ok (.iconst 1, 1) := by decide +kernel
theorem dX9_ownerNow_80 : decode cX9_ownerNow 80 = .ok (.iadd, 1) := by decide +kernel
theorem dX9_ownerNow_81 : decode cX9_ownerNow 81 = .ok (.iaload, 1) := by decide +kernel
theorem dX9_ownerNow_82 : decode cX9_ownerNow 82 = .ok (.iload_n 2, 1) := by decide +kernel
theorem dX9_ownerNow_83 : decode cX9_ownerNow 83 = .ok (.if_icmp .ne 7, 3) := by decide +kernel
theorem dX9_ownerNow_86 : decode cX9_ownerNow 86 = .ok (.iconst 1, 1) := by decide +kernel
theorem dX9_ownerNow_87 : decode cX9_ownerNow 87 = .ok (.goto 4, 3) := by decide +kernel
theorem dX9_ownerNow_90 : decode cX9_ownerNow 90 = .ok (.iconst 0, 1) := by decide +kernel
theorem dX9_ownerNow_91 : decode cX9_ownerNow 91 = .ok (.istore 11, 2) := by decide +kernel
theorem dX9_ownerNow_93 : decode cX9_ownerNow 93 = .ok (.iload 11, 2) := by decide +kernel
theorem dX9_ownerNow_95 : decode cX9_ownerNow 95 = .ok (.ifCond .eq 21, 3) := by decide +kernel
theorem dX9_ownerNow_98 : decode cX9_ownerNow 98 = .ok (.iload 4, 2) := by decide +kernel
theorem dX9_ownerNow_100 : decode cX9_ownerNow 100 = .ok (.iconst (-1), 1) := by decide +kernel
theorem dX9_ownerNow_101 : decode cX9_ownerNow 101 = .ok (.if_icmp .ne 15, 3) := by decide +kernel
theorem dX9_ownerNow_104 : decode cX9_ownerNow 104 = .ok (.aload_n 0, 1) := by decide +kernel
theorem dX9_ownerNow_105 : decode cX9_ownerNow 105 = .ok (.getfield 7, 3) := by decide +kernel
theorem dX9_ownerNow_108 : decode cX9_ownerNow 108 = .ok (.iload 10, 2) := by decide +kernel
theorem dX9_ownerNow_110 : decode cX9_ownerNow 110 = .ok (.iconst 2, 1) := by decide +kernel
theorem dX9_ownerNow_111 : decode cX9_ownerNow 111 = .ok (.iadd, 1) := by decide +kernel
theorem dX9_ownerNow_112 : decode cX9_ownerNow 112 = .ok (.iaload, 1) := by decide +kernel
theorem dX9_ownerNow_113 : decode cX9_ownerNow 113 = .ok (.goto 5, 3) := by decide +kernel
theorem dX9_ownerNow_116 : decode cX9_ownerNow 116 = .ok (.iload 5, 2) := by decide +kernel
theorem dX9_ownerNow_118 : decode cX9_ownerNow 118 = .ok (.istore 5, 2) := by decide +kernel
theorem dX9_ownerNow_120 : decode cX9_ownerNow 120 = .ok (.iload 11, 2) := by decide +kernel
theorem dX9_ownerNow_122 : decode cX9_ownerNow 122 = .ok (.ifCond .eq 14, 3) := by decide +kernel
theorem dX9_ownerNow_125 : decode cX9_ownerNow 125 = .ok (.iload 4, 2) := by decide +kernel
theorem dX9_ownerNow_127 : decode cX9_ownerNow 127 = .ok (.iconst (-1), 1) := by decide +kernel
theorem dX9_ownerNow_128 : decode cX9_ownerNow 128 = .ok (.if_icmp .ne 8, 3) := by decide +kernel
theorem dX9_ownerNow_131 : decode cX9_ownerNow 131 = .ok (.iload 7, 2) := by decide +kernel
theorem dX9_ownerNow_133 : decode cX9_ownerNow 133 = .ok (.goto 5, 3) := by decide +kernel
theorem dX9_ownerNow_136 : decode cX9_ownerNow 136 = .ok (.iload 4, 2) := by decide +kernel
theorem dX9_ownerNow_138 : decode cX9_ownerNow 138 = .ok (.istore 4, 2) := by decide +kernel
theorem dX9_ownerNow_140 : decode cX9_ownerNow 140 = .ok (.iload 8, 2) := by decide +kernel
theorem dX9_ownerNow_142 : decode cX9_ownerNow 142 = .ok (.ifCond .ne 8, 3) := by decide +kernel
theorem dX9_ownerNow_145 : decode cX9_ownerNow 145 = .ok (.iload 11, 2) := by decide +kernel
theorem dX9_ownerNow_147 : decode cX9_ownerNow 147 = .ok (.ifCond .eq 7, 3) := by decide +kernel
theorem dX9_ownerNow_150 : decode cX9_ownerNow 150 = .ok (.iconst 1, 1) := by decide +kernel
theorem dX9_ownerNow_151 : decode cX9_ownerNow 151 = .ok (.goto 4, 3) := by decide +kernel
theorem dX9_ownerNow_154 : decode cX9_ownerNow 154 = .ok (.iconst 0, 1) := by decide +kernel
theorem dX9_ownerNow_155 : decode cX9_ownerNow 155 = .ok (.istore 8, 2) := by decide +kernel
theorem dX9_ownerNow_157 : decode cX9_ownerNow 157 = .ok (.iinc 9 1, 3) := by decide +kernel
theorem dX9_ownerNow_160 : decode cX9_ownerNow 160 = .ok (.goto (-131), 3) := by decide +kernel
theorem dX9_ownerNow_163 : decode cX9_ownerNow 163 = .ok (.iload 6, 2) := by decide +kernel
theorem dX9_ownerNow_165 : decode cX9_ownerNow 165 = .ok (.iload 8, 2) := by decide +kernel
theorem dX9_ownerNow_167 : decode cX9_ownerNow 167 = .ok (.ifCond .eq 7, 3) := by decide +kernel
theorem dX9_ownerNow_170 : decode cX9_ownerNow 170 = .ok (.iconst 1, 1) := by decide +kernel
theorem dX9_ownerNow_171 : decode cX9_ownerNow 171 = .ok (.goto 4, 3) := by decide +kernel
theorem dX9_ownerNow_174 : decode cX9_ownerNow 174 = .ok (.iconst 0, 1) := by decide +kernel
theorem dX9_ownerNow_175 : decode cX9_ownerNow 175 = .ok (.iadd, 1) := by decide +kernel
theorem dX9_ownerNow_176 : decode cX9_ownerNow 176 = .ok (.istore 6, 2) := by decide +kernel
theorem dX9_ownerNow_178 : decode cX9_ownerNow 178 = .ok (.iinc 7 1, 3) := by decide +kernel
theorem dX9_ownerNow_181 : decode cX9_ownerNow 181 = .ok (.goto (-169), 3) := by decide +kernel
theorem dX9_ownerNow_184 : decode cX9_ownerNow 184 = .ok (.iload_n 3, 1) := by decide +kernel
theorem dX9_ownerNow_185 : decode cX9_ownerNow 185 = .ok (.ifCond .ne 8, 3) := by decide +kernel
theorem dX9_ownerNow_188 : decode cX9_ownerNow 188 = .ok (.iload 4, 2) := by decide +kernel
theorem dX9_ownerNow_190 : decode cX9_ownerNow 190 = .ok (.goto 15, 3) := by decide +kernel
theorem dX9_ownerNow_193 : decode cX9_ownerNow 193 = .ok (.iload_n 3, 1) := by decide +kernel
theorem dX9_ownerNow_194 : decode cX9_ownerNow 194 = .ok (.iconst 1, 1) := by decide +kernel
theorem dX9_ownerNow_195 : decode cX9_ownerNow 195 = .ok (.if_icmp .ne 8, 3) := by decide +kernel
theorem dX9_ownerNow_198 : decode cX9_ownerNow 198 = .ok (.iload 5, 2) := by decide +kernel
theorem dX9_ownerNow_200 : decode cX9_ownerNow 200 = .ok (.goto 5, 3) := by decide +kernel
theorem dX9_ownerNow_203 : decode cX9_ownerNow 203 = .ok (.iload 6, 2) := by decide +kernel
theorem dX9_ownerNow_205 : decode cX9_ownerNow 205 = .ok (.ireturn, 1) := by decide +kernel
theorem dX9_owner_0 : decode cX9_owner 0 = .ok (.iload_n 1, 1) := by decide +kernel
theorem dX9_owner_1 : decode cX9_owner 1 = .ok (.iload_n 2, 1) := by decide +kernel
theorem dX9_owner_2 : decode cX9_owner 2 = .ok (.invokestatic 113, 3) := by decide +kernel
theorem dX9_owner_5 : decode cX9_owner 5 = .ok (.ifCond .eq 25, 3) := by decide +kernel
theorem dX9_owner_8 : decode cX9_owner 8 = .ok (.iload_n 3, 1) := by decide +kernel
theorem dX9_owner_9 : decode cX9_owner 9 = .ok (.i2l, 1) := by decide +kernel
theorem dX9_owner_10 : decode cX9_owner 10 = .ok (.lconst 0, 1) := by decide +kernel
theorem dX9_owner_11 : decode cX9_owner 11 = .ok (.ldc2_w 118, 3) := by decide +kernel
theorem dX9_owner_14 : decode cX9_owner 14 = .ok (.invokestatic 47, 3) := by decide +kernel
theorem dX9_owner_17 : decode cX9_owner 17 = .ok (.ifCond .eq 13, 3) := by decide +kernel
theorem dX9_owner_20 : decode cX9_owner 20 = .ok (.aload_n 0, 1) := by decide +kernel
theorem dX9_owner_21 : decode cX9_owner 21 = .ok (.iload_n 1, 1) := by decide +kernel
theorem dX9_owner_22 : decode cX9_owner 22 = .ok (.iload_n 2, 1) := by decide +kernel
theorem dX9_owner_23 : decode cX9_owner 23 = .ok (.iload_n 3, 1) := by decide +kernel
theorem dX9_owner_24 : decode cX9_owner 24 = .ok (.invokevirtual 206, 3) := by decide +kernel
theorem dX9_owner_27 : decode cX9_owner 27 = .ok (.goto 9, 3) := by decide +kernel
theorem dX9_owner_30 : decode cX9_owner 30 = .ok (.aload_n 0, 1) := by decide +kernel
theorem dX9_owner_31 : decode cX9_owner 31 = .ok (.bipush (-2), 2) := by decide +kernel
theorem dX9_owner_33 : decode cX9_owner 33 = .ok (.invokevirtual 97, 3) := by decide +kernel
theorem dX9_owner_36 : decode cX9_owner 36 = .ok (.ireturn, 1) := by decide +kernel
theorem dX9_isOwned_0 : decode cX9_isOwned 0 = .ok (.iconst 0, 1) := by decide +kernel
theorem dX9_isOwned_1 : decode cX9_isOwned 1 = .ok (.istore_n 2, 1) := by decide +kernel
theorem dX9_isOwned_2 : decode cX9_isOwned 2 = .ok (.iconst 0, 1) := by decide +kernel
theorem dX9_isOwned_3 : decode cX9_isOwned 3 = .ok (.istore_n 3, 1) := by decide +kernel
theorem dX9_isOwned_4 : decode cX9_isOwned 4 = .ok (.iload_n 3, 1) := by decide +kernel
theorem dX9_isOwned_5 : decode cX9_isOwned 5 = .ok (.aload_n 0, 1) := by decide +kernel
theorem dX9_isOwned_6 : decode cX9_isOwned 6 = .ok (.getfield 7, 3) := by decide +kernel
theorem dX9_isOwned_9 : decode cX9_isOwned 9 = .ok (.iconst 0, 1) := by decide +kernel
theorem dX9_isOwned_10 : decode cX9_isOwned 10 = .ok (.iaload, 1) := by decide +kernel
theorem dX9_isOwned_11 : decode cX9_isOwned 11 = .ok (.if_icmp .ge 69, 3) := by decide +kernel
theorem dX9_isOwned_14 : decode cX9_isOwned 14 = .ok (.iconst 0, 1) := by decide +kernel
theorem dX9_isOwned_15 : decode cX9_isOwned 15 = .ok (.istore 4, 2) := by decide +kernel
theorem dX9_isOwned_17 : decode cX9_isOwned 17 = .ok (.iload 4, 2) := by decide +kernel
theorem dX9_isOwned_19 : decode cX9_isOwned 19 = .ok (.aload_n 0, 1) := by decide +kernel
theorem dX9_isOwned_20 : decode cX9_isOwned 20 = .ok (.iload_n 3, 1) := by decide +kernel
theorem dX9_isOwned_21 : decode cX9_isOwned 21 = .ok (.invokevirtual 73, 3) := by decide +kernel
theorem dX9_isOwned_24 : decode cX9_isOwned 24 = .ok (.if_icmp .ge 50, 3) := by decide +kernel
theorem dX9_isOwned_27 : decode cX9_isOwned 27 = .ok (.iload_n 2, 1) := by decide +kernel
theorem dX9_isOwned_28 : decode cX9_isOwned 28 = .ok (.ifCond .ne 34, 3) := by decide +kernel
theorem dX9_isOwned_31 : decode cX9_isOwned 31 = .ok (.aload_n 0, 1) := by decide +kernel
theorem dX9_isOwned_32 : decode cX9_isOwned 32 = .ok (.getfield 7, 3) := by decide +kernel
theorem dX9_isOwned_35 : decode cX9_isOwned 35 = .ok (.iload_n 3, 1) := by decide +kernel
theorem dX9_isOwned_36 : decode cX9_isOwned 36 = .ok (.iload 4, 2) := by decide +kernel
theorem dX9_isOwned_38 : decode cX9_isOwned 38 = .ok (.invokestatic 55, 3) := by decide +kernel
theorem dX9_isOwned_41 : decode cX9_isOwned 41 = .ok (.iconst 4, 1) := by decide +kernel
theorem dX9_isOwned_42 : decode cX9_isOwned 42 = .ok (.iadd, 1) := by decide +kernel
theorem dX9_isOwned_43 : decode cX9_isOwned 43 = .ok (.iaload, 1) := by decide +kernel
theorem dX9_isOwned_44 : decode cX9_isOwned 44 = .ok (.iconst 3, 1) := by decide +kernel
theorem dX9_isOwned_45 : decode cX9_isOwned 45 = .ok (.if_icmp .ne 21, 3) := by decide +kernel
theorem dX9_isOwned_48 : decode cX9_isOwned 48 = .ok (.aload_n 0, 1) := by decide +kernel
theorem dX9_isOwned_49 : decode cX9_isOwned 49 = .ok (.iload_n 3, 1) := by decide +kernel
theorem dX9_isOwned_50 : decode cX9_isOwned 50 = .ok (.iload 4, 2) := by decide +kernel
theorem dX9_isOwned_52 : decode cX9_isOwned 52 = .ok (.invokestatic 55, 3) := by decide +kernel
theorem dX9_isOwned_55 : decode cX9_isOwned 55 = .ok (.iload_n 1, 1) := by decide +kernel
theorem dX9_isOwned_56 : decode cX9_isOwned 56 = .ok (.invokevirtual 76, 3) := by decide +kernel
theorem dX9_isOwned_59 : decode cX9_isOwned 59 = .ok (.ifCond .eq 7, 3) := by decide +kernel
theorem dX9_isOwned_62 : decode cX9_isOwned 62 = .ok (.iconst 1, 1) := by decide +kernel
theorem dX9_isOwned_63 : decode cX9_isOwned 63 = .ok (.goto 4, 3) := by decide +kernel
theorem dX9_isOwned_66 : decode cX9_isOwned 66 = .ok (.iconst 0, 1) := by decide +kernel
theorem dX9_isOwned_67 : decode cX9_isOwned 67 = .ok (.istore_n 2, 1) := by decide +kernel
theorem dX9_isOwned_68 : decode cX9_isOwned 68 = .ok (.iinc 4 1, 3) := by decide +kernel
theorem dX9_isOwned_71 : decode cX9_isOwned 71 = .ok (.goto (-54), 3) := by decide +kernel
theorem dX9_isOwned_74 : decode cX9_isOwned 74 = .ok (.iinc 3 1, 3) := by decide +kernel
theorem dX9_isOwned_77 : decode cX9_isOwned 77 = .ok (.goto (-73), 3) := by decide +kernel
theorem dX9_isOwned_80 : decode cX9_isOwned 80 = .ok (.iload_n 2, 1) := by decide +kernel
theorem dX9_isOwned_81 : decode cX9_isOwned 81 = .ok (.ireturn, 1) := by decide +kernel
theorem dX9_allNow_0 : decode cX9_allNow 0 = .ok (.iconst 0, 1) := by decide +kernel
theorem dX9_allNow_1 : decode cX9_allNow 1 = .ok (.istore_n 2, 1) := by decide +kernel
theorem dX9_allNow_2 : decode cX9_allNow 2 = .ok (.iconst 0, 1) := by decide +kernel
theorem dX9_allNow_3 : decode cX9_allNow 3 = .ok (.istore_n 3, 1) := by decide +kernel
theorem dX9_allNow_4 : decode cX9_allNow 4 = .ok (.iload_n 3, 1) := by decide +kernel
theorem dX9_allNow_5 : decode cX9_allNow 5 = .ok (.aload_n 0, 1) := by decide +kernel
theorem dX9_allNow_6 : decode cX9_allNow 6 = .ok (.getfield 7, 3) := by decide +kernel
theorem dX9_allNow_9 : decode cX9_allNow 9 = .ok (.iconst 0, 1) := by decide +kernel
theorem dX9_allNow_10 : decode cX9_allNow 10 = .ok (.iaload, 1) := by decide +kernel
theorem dX9_allNow_11 : decode cX9_allNow 11 = .ok (.if_icmp .ge 108, 3) := by decide +kernel
theorem dX9_allNow_14 : decode cX9_allNow 14 = .ok (.iload_n 2, 1) := by decide +kernel
theorem dX9_allNow_15 : decode cX9_allNow 15 = .ok (.iload_n 1, 1) := by decide +kernel
theorem dX9_allNow_16 : decode cX9_allNow 16 = .ok (.ifCond .ne 11, 3) := by decide +kernel
theorem dX9_allNow_19 : decode cX9_allNow 19 = .ok (.aload_n 0, 1) := by decide +kernel
theorem dX9_allNow_20 : decode cX9_allNow 20 = .ok (.iload_n 3, 1) := by decide +kernel
theorem dX9_allNow_21 : decode cX9_allNow 21 = .ok (.invokevirtual 70, 3) := by decide +kernel
theorem dX9_allNow_24 : decode cX9_allNow 24 = .ok (.goto 42, 3) := by decide +kernel
theorem dX9_allNow_27 : decode cX9_allNow 27 = .ok (.iload_n 1, 1) := by decide +kernel
theorem dX9_allNow_28 : decode cX9_allNow 28 = .ok (.iconst 2, 1) := by decide +kernel
theorem dX9_allNow_29 : decode cX9_allNow 29 = .ok (.if_icmp .ne 17, 3) := by decide +kernel
theorem dX9_allNow_32 : decode cX9_allNow 32 = .ok (.aload_n 0, 1) := by decide +kernel
theorem dX9_allNow_33 : decode cX9_allNow 33 = .ok (.iload_n 3, 1) := by decide +kernel
theorem dX9_allNow_34 : decode cX9_allNow 34 = .ok (.invokevirtual 73, 3) := by decide +kernel
theorem dX9_allNow_37 : decode cX9_allNow 37 = .ok (.aload_n 0, 1) := by decide +kernel
theorem dX9_allNow_38 : decode cX9_allNow 38 = .ok (.iload_n 3, 1) := by decide +kernel
theorem dX9_allNow_39 : decode cX9_allNow 39 = .ok (.invokevirtual 151, 3) := by decide +kernel
theorem dX9_allNow_42 : decode cX9_allNow 42 = .ok (.isub, 1) := by decide +kernel
theorem dX9_allNow_43 : decode cX9_allNow 43 = .ok (.goto 23, 3) := by decide +kernel
theorem dX9_allNow_46 : decode cX9_allNow 46 = .ok (.iload_n 1, 1) := by decide +kernel
theorem dX9_allNow_47 : decode cX9_allNow 47 = .ok (.iconst 3, 1) := by decide +kernel
theorem dX9_allNow_48 : decode cX9_allNow 48 = .ok (.if_icmp .ne 17, 3) := by decide +kernel
theorem dX9_allNow_51 : decode cX9_allNow 51 = .ok (.aload_n 0, 1) := by decide +kernel
theorem dX9_allNow_52 : decode cX9_allNow 52 = .ok (.getfield 7, 3) := by decide +kernel
theorem dX9_allNow_55 : decode cX9_allNow 55 = .ok (.bipush 10, 2) := by decide +kernel
theorem dX9_allNow_57 : decode cX9_allNow 57 = .ok (.iconst 4, 1) := by decide +kernel
theorem dX9_allNow_58 : decode cX9_allNow 58 = .ok (.iload_n 3, 1) := by decide +kernel
theorem dX9_allNow_59 : decode cX9_allNow 59 = .ok (.imul, 1) := by decide +kernel
theorem dX9_allNow_60 : decode cX9_allNow 60 = .ok (.iadd, 1) := by decide +kernel
theorem dX9_allNow_61 : decode cX9_allNow 61 = .ok (.iaload, 1) := by decide +kernel
theorem dX9_allNow_62 : decode cX9_allNow 62 = .ok (.goto 4, 3) := by decide +kernel
theorem dX9_allNow_65 : decode cX9_allNow 65 = .ok (.iconst 0, 1) := by decide +kernel
theorem dX9_allNow_66 : decode cX9_allNow 66 = .ok (.iadd, 1) := by decide +kernel
theorem dX9_allNow_67 : decode cX9_allNow 67 = .ok (.istore_n 2, 1) := by decide +kernel
theorem dX9_allNow_68 : decode cX9_allNow 68 = .ok (.iconst 0, 1) := by decide +kernel
theorem dX9_allNow_69 : decode cX9_allNow 69 = .ok (.istore 4, 2) := by decide +kernel
theorem dX9_allNow_71 : decode cX9_allNow 71 = .ok (.iload 4, 2) := by decide +kernel
theorem dX9_allNow_73 : decode cX9_allNow 73 = .ok (.aload_n 0, 1) := by decide +kernel
theorem dX9_allNow_74 : decode cX9_allNow 74 = .ok (.iload_n 3, 1) := by decide +kernel
theorem dX9_allNow_75 : decode cX9_allNow 75 = .ok (.invokevirtual 70, 3) := by decide +kernel
theorem dX9_allNow_78 : decode cX9_allNow 78 = .ok (.if_icmp .ge 35, 3) := by decide +kernel
theorem dX9_allNow_81 : decode cX9_allNow 81 = .ok (.iload_n 1, 1) := by decide +kernel
theorem dX9_allNow_82 : decode cX9_allNow 82 = .ok (.iconst 1, 1) := by decide +kernel
theorem dX9_allNow_83 : decode cX9_allNow 83 = .ok (.if_icmp .ne 30, 3) := by decide +kernel
theorem dX9_allNow_86 : decode cX9_allNow 86 = .ok (.iload_n 2, 1) := by decide +kernel
theorem dX9_allNow_87 : decode cX9_allNow 87 = .ok (.aload_n 0, 1) := by decide +kernel
theorem dX9_allNow_88 : decode cX9_allNow 88 = .ok (.iload_n 3, 1) := by decide +kernel
theorem dX9_allNow_89 : decode cX9_allNow 89 = .ok (.iload 4, 2) := by decide +kernel
theorem dX9_allNow_91 : decode cX9_allNow 91 = .ok (.invokestatic 67, 3) := by decide +kernel
theorem dX9_allNow_94 : decode cX9_allNow 94 = .ok (.invokevirtual 209, 3) := by decide +kernel
theorem dX9_allNow_97 : decode cX9_allNow 97 = .ok (.ifCond .eq 7, 3) := by decide +kernel
theorem dX9_allNow_100 : decode cX9_allNow 100 = .ok (.iconst 0, 1) := by decide +kernel
theorem dX9_allNow_101 : decode cX9_allNow 101 = .ok (.goto 4, 3) := by decide +kernel
theorem dX9_allNow_104 : decode cX9_allNow 104 = .ok (.iconst 1, 1) := by decide +kernel
theorem dX9_allNow_105 : decode cX9_allNow 105 = .ok (.iadd, 1) := by decide +kernel
theorem dX9_allNow_106 : decode cX9_allNow 106 = .ok (.istore_n 2, 1) := by decide +kernel
theorem dX9_allNow_107 : decode cX9_allNow 107 = .ok (.iinc 4 1, 3) := by decide +kernel
theorem dX9_allNow_110 : decode cX9_allNow 110 = .ok (.goto (-39), 3) := by decide +kernel
theorem dX9_allNow_113 : decode cX9_allNow 113 = .ok (.iinc 3 1, 3) := by decide +kernel
theorem dX9_allNow_116 : decode cX9_allNow 116 = .ok (.goto (-112), 3) := by decide +kernel
theorem dX9_allNow_119 : decode cX9_allNow 119 = .ok (.iload_n 2, 1) := by decide +kernel
theorem dX9_allNow_120 : decode cX9_allNow 120 = .ok (.ireturn, 1) := by decide +kernel
theorem dX9_all_0 : decode cX9_all 0 = .ok (.iload_n 1, 1) := by decide +kernel
theorem dX9_all_1 : decode cX9_all 1 = .ok (.i2l, 1) := by decide +kernel
theorem dX9_all_2 : decode cX9_all 2 = .ok (.lconst 0, 1) := by decide +kernel
theorem dX9_all_3 : decode cX9_all 3 = .ok (.ldc2_w 108, 3) := by decide +kernel
theorem dX9_all_6 : decode cX9_all 6 = .ok (.invokestatic 47, 3) := by decide +kernel
theorem dX9_all_9 : decode cX9_all 9 = .ok (.ifCond .eq 11, 3) := by decide +kernel
theorem dX9_all_12 : decode cX9_all 12 = .ok (.aload_n 0, 1) := by decide +kernel
theorem dX9_all_13 : decode cX9_all 13 = .ok (.iload_n 1, 1) := by decide +kernel
theorem dX9_all_14 : decode cX9_all 14 = .ok (.invokevirtual 212, 3) := by decide +kernel
theorem dX9_all_17 : decode cX9_all 17 = .ok (.goto 9, 3) := by decide +kernel
theorem dX9_all_20 : decode cX9_all 20 = .ok (.aload_n 0, 1) := by decide +kernel
theorem dX9_all_21 : decode cX9_all 21 = .ok (.bipush (-2), 2) := by decide +kernel
theorem dX9_all_23 : decode cX9_all 23 = .ok (.invokevirtual 97, 3) := by decide +kernel
theorem dX9_all_26 : decode cX9_all 26 = .ok (.ireturn, 1) := by decide +kernel
theorem dX9_canSleep_0 : decode cX9_canSleep 0 = .ok (.aload_n 0, 1) := by decide +kernel
theorem dX9_canSleep_1 : decode cX9_canSleep 1 = .ok (.iload_n 1, 1) := by decide +kernel
theorem dX9_canSleep_2 : decode cX9_canSleep 2 = .ok (.invokevirtual 110, 3) := by decide +kernel
theorem dX9_canSleep_5 : decode cX9_canSleep 5 = .ok (.ifCond .eq 21, 3) := by decide +kernel
theorem dX9_canSleep_8 : decode cX9_canSleep 8 = .ok (.iload_n 2, 1) := by decide +kernel
theorem dX9_canSleep_9 : decode cX9_canSleep 9 = .ok (.iconst (-1), 1) := by decide +kernel
theorem dX9_canSleep_10 : decode cX9_canSleep 10 = .ok (.if_icmp .eq 11, 3) := by decide +kernel
theorem dX9_canSleep_13 : decode cX9_canSleep 13 = .ok (.aload_n 0, 1) := by decide +kernel
theorem dX9_canSleep_14 : decode cX9_canSleep 14 = .ok (.iload_n 2, 1) := by decide +kernel
theorem dX9_canSleep_15 : decode cX9_canSleep 15 = .ok (.invokevirtual 110, 3) := by decide +kernel
theorem dX9_canSleep_18 : decode cX9_canSleep 18 = .ok (.ifCond .eq 8, 3) := by decide +kernel
theorem dX9_canSleep_21 : decode cX9_canSleep 21 = .ok (.iload_n 2, 1) := by decide +kernel
theorem dX9_canSleep_22 : decode cX9_canSleep 22 = .ok (.iload_n 1, 1) := by decide +kernel
theorem dX9_canSleep_23 : decode cX9_canSleep 23 = .ok (.if_icmp .ne 6, 3) := by decide +kernel
theorem dX9_canSleep_26 : decode cX9_canSleep 26 = .ok (.bipush (-2), 2) := by decide +kernel
theorem dX9_canSleep_28 : decode cX9_canSleep 28 = .ok (.ireturn, 1) := by decide +kernel
theorem dX9_canSleep_29 : decode cX9_canSleep 29 = .ok (.aload_n 0, 1) := by decide +kernel
theorem dX9_canSleep_30 : decode cX9_canSleep 30 = .ok (.iload_n 1, 1) := by decide +kernel
theorem dX9_canSleep_31 : decode cX9_canSleep 31 = .ok (.invokevirtual 59, 3) := by decide +kernel
theorem dX9_canSleep_34 : decode cX9_canSleep 34 = .ok (.ifCond .eq 16, 3) := by decide +kernel
theorem dX9_canSleep_37 : decode cX9_canSleep 37 = .ok (.iload_n 2, 1) := by decide +kernel
theorem dX9_canSleep_38 : decode cX9_canSleep 38 = .ok (.iconst (-1), 1) := by decide +kernel
theorem dX9_canSleep_39 : decode cX9_canSleep 39 = .ok (.if_icmp .eq 16, 3) := by decide +kernel
theorem dX9_canSleep_42 : decode cX9_canSleep 42 = .ok (.aload_n 0, 1) := by decide +kernel
theorem dX9_canSleep_43 : decode cX9_canSleep 43 = .ok (.iload_n 2, 1) := by decide +kernel
theorem dX9_canSleep_44 : decode cX9_canSleep 44 = .ok (.invokevirtual 59, 3) := by decide +kernel
theorem dX9_canSleep_47 : decode cX9_canSleep 47 = .ok (.ifCond .ne 8, 3) := by decide +kernel
theorem dX9_canSleep_50 : decode cX9_canSleep 50 = .ok (.bipush (-3), 2) := by decide +kernel
theorem dX9_canSleep_52 : decode cX9_canSleep 52 = .ok (.goto 4, 3) := by decide +kernel
theorem dX9_canSleep_55 : decode cX9_canSleep 55 = .ok (.iconst 0, 1) := by decide +kernel
theorem dX9_canSleep_56 : decode cX9_canSleep 56 = .ok (.ireturn, 1) := by decide +kernel
theorem dX9_sleepNow_0 : decode cX9_sleepNow 0 = .ok (.aload_n 0, 1) := by decide +kernel
theorem dX9_sleepNow_1 : decode cX9_sleepNow 1 = .ok (.getfield 7, 3) := by decide +kernel
theorem dX9_sleepNow_4 : decode cX9_sleepNow 4 = .ok (.bipush 10, 2) := by decide +kernel
theorem dX9_sleepNow_6 : decode cX9_sleepNow 6 = .ok (.iconst 4, 1) := by decide +kernel
theorem dX9_sleepNow_7 : decode cX9_sleepNow 7 = .ok (.iload_n 1, 1) := by decide +kernel
theorem dX9_sleepNow_8 : decode cX9_sleepNow 8 = .ok (.imul, 1) := by decide +kernel
theorem dX9_sleepNow_9 : decode cX9_sleepNow 9 = .ok (.iadd, 1) := by decide +kernel
theorem dX9_sleepNow_10 : decode cX9_sleepNow 10 = .ok (.iconst 0, 1) := by decide +kernel
theorem dX9_sleepNow_11 : decode cX9_sleepNow 11 = .ok (.iastore, 1) := by decide +kernel
theorem dX9_sleepNow_12 : decode cX9_sleepNow 12 = .ok (.aload_n 0, 1) := by decide +kernel
theorem dX9_sleepNow_13 : decode cX9_sleepNow 13 = .ok (.getfield 7, 3) := by decide +kernel
theorem dX9_sleepNow_16 : decode cX9_sleepNow 16 = .ok (.bipush 10, 2) := by decide +kernel
theorem dX9_sleepNow_18 : decode cX9_sleepNow 18 = .ok (.iconst 4, 1) := by decide +kernel
theorem dX9_sleepNow_19 : decode cX9_sleepNow 19 = .ok (.iload_n 1, 1) := by decide +kernel
theorem dX9_sleepNow_20 : decode cX9_sleepNow 20 = .ok (.imul, 1) := by decide +kernel
theorem dX9_sleepNow_21 : decode cX9_sleepNow 21 = .ok (.iadd, 1) := by decide +kernel
theorem dX9_sleepNow_22 : decode cX9_sleepNow 22 = .ok (.iconst 1, 1) := by decide +kernel
theorem dX9_sleepNow_23 : decode cX9_sleepNow 23 = .ok (.iadd, 1) := by decide +kernel
theorem dX9_sleepNow_24 : decode cX9_sleepNow 24 = .ok (.iload_n 2, 1) := by decide +kernel
theorem dX9_sleepNow_25 : decode cX9_sleepNow 25 = .ok (.iastore, 1) := by decide +kernel
theorem dX9_sleepNow_26 : decode cX9_sleepNow 26 = .ok (.aload_n 0, 1) := by decide +kernel
theorem dX9_sleepNow_27 : decode cX9_sleepNow 27 = .ok (.iload_n 1, 1) := by decide +kernel
theorem dX9_sleepNow_28 : decode cX9_sleepNow 28 = .ok (.invokevirtual 151, 3) := by decide +kernel
theorem dX9_sleepNow_31 : decode cX9_sleepNow 31 = .ok (.ireturn, 1) := by decide +kernel
theorem dX9_sleeps_0 : decode cX9_sleeps 0 = .ok (.aload_n 0, 1) := by decide +kernel
theorem dX9_sleeps_1 : decode cX9_sleeps 1 = .ok (.iload_n 1, 1) := by decide +kernel
theorem dX9_sleeps_2 : decode cX9_sleeps 2 = .ok (.iload_n 2, 1) := by decide +kernel
theorem dX9_sleeps_3 : decode cX9_sleeps 3 = .ok (.invokevirtual 215, 3) := by decide +kernel
theorem dX9_sleeps_6 : decode cX9_sleeps 6 = .ok (.istore_n 3, 1) := by decide +kernel
theorem dX9_sleeps_7 : decode cX9_sleeps 7 = .ok (.iload_n 3, 1) := by decide +kernel
theorem dX9_sleeps_8 : decode cX9_sleeps 8 = .ok (.ifCond .ge 9, 3) := by decide +kernel
theorem dX9_sleeps_11 : decode cX9_sleeps 11 = .ok (.aload_n 0, 1) := by decide +kernel
theorem dX9_sleeps_12 : decode cX9_sleeps 12 = .ok (.iload_n 3, 1) := by decide +kernel
theorem dX9_sleeps_13 : decode cX9_sleeps 13 = .ok (.invokevirtual 97, 3) := by decide +kernel
theorem dX9_sleeps_16 : decode cX9_sleeps 16 = .ok (.ireturn, 1) := by decide +kernel
theorem dX9_sleeps_17 : decode cX9_sleeps 17 = .ok (.aload_n 0, 1) := by decide +kernel
theorem dX9_sleeps_18 : decode cX9_sleeps 18 = .ok (.invokevirtual 100, 3) := by decide +kernel
theorem dX9_sleeps_21 : decode cX9_sleeps 21 = .ok (.aload_n 0, 1) := by decide +kernel
theorem dX9_sleeps_22 : decode cX9_sleeps 22 = .ok (.iload_n 1, 1) := by decide +kernel
theorem dX9_sleeps_23 : decode cX9_sleeps 23 = .ok (.iload_n 2, 1) := by decide +kernel
theorem dX9_sleeps_24 : decode cX9_sleeps 24 = .ok (.invokevirtual 218, 3) := by decide +kernel
theorem dX9_sleeps_27 : decode cX9_sleeps 27 = .ok (.ireturn, 1) := by decide +kernel
theorem dX9_canWake_0 : decode cX9_canWake 0 = .ok (.aload_n 0, 1) := by decide +kernel
theorem dX9_canWake_1 : decode cX9_canWake 1 = .ok (.iload_n 1, 1) := by decide +kernel
theorem dX9_canWake_2 : decode cX9_canWake 2 = .ok (.invokevirtual 110, 3) := by decide +kernel
theorem dX9_canWake_5 : decode cX9_canWake 5 = .ok (.ifCond .ne 8, 3) := by decide +kernel
theorem dX9_canWake_8 : decode cX9_canWake 8 = .ok (.bipush (-2), 2) := by decide +kernel
theorem dX9_canWake_10 : decode cX9_canWake 10 = .ok (.goto 17, 3) := by decide +kernel
theorem dX9_canWake_13 : decode cX9_canWake 13 = .ok (.aload_n 0, 1) := by decide +kernel
theorem dX9_canWake_14 : decode cX9_canWake 14 = .ok (.iload_n 1, 1) := by decide +kernel
theorem dX9_canWake_15 : decode cX9_canWake 15 = .ok (.invokevirtual 59, 3) := by decide +kernel
theorem dX9_canWake_18 : decode cX9_canWake 18 = .ok (.ifCond .eq 8, 3) := by decide +kernel
theorem dX9_canWake_21 : decode cX9_canWake 21 = .ok (.bipush (-3), 2) := by decide +kernel
theorem dX9_canWake_23 : decode cX9_canWake 23 = .ok (.goto 4, 3) := by decide +kernel
theorem dX9_canWake_26 : decode cX9_canWake 26 = .ok (.iconst 0, 1) := by decide +kernel
theorem dX9_canWake_27 : decode cX9_canWake 27 = .ok (.ireturn, 1) := by decide +kernel
theorem dX9_wakeNow_0 : decode cX9_wakeNow 0 = .ok (.aload_n 0, 1) := by decide +kernel
theorem dX9_wakeNow_1 : decode cX9_wakeNow 1 = .ok (.getfield 7, 3) := by decide +kernel
theorem dX9_wakeNow_4 : decode cX9_wakeNow 4 = .ok (.iconst 2, 1) := by decide +kernel
theorem dX9_wakeNow_5 : decode cX9_wakeNow 5 = .ok (.iaload, 1) := by decide +kernel
theorem dX9_wakeNow_6 : decode cX9_wakeNow 6 = .ok (.istore_n 2, 1) := by decide +kernel
theorem dX9_wakeNow_7 : decode cX9_wakeNow 7 = .ok (.aload_n 0, 1) := by decide +kernel
theorem dX9_wakeNow_8 : decode cX9_wakeNow 8 = .ok (.getfield 7, 3) := by decide +kernel
theorem dX9_wakeNow_11 : decode cX9_wakeNow 11 = .ok (.bipush 10, 2) := by decide +kernel
theorem dX9_wakeNow_13 : decode cX9_wakeNow 13 = .ok (.iconst 4, 1) := by decide +kernel
theorem dX9_wakeNow_14 : decode cX9_wakeNow 14 = .ok (.iload_n 1, 1) := by decide +kernel
theorem dX9_wakeNow_15 : decode cX9_wakeNow 15 = .ok (.imul, 1) := by decide +kernel
theorem dX9_wakeNow_16 : decode cX9_wakeNow 16 = .ok (.iadd, 1) := by decide +kernel
theorem dX9_wakeNow_17 : decode cX9_wakeNow 17 = .ok (.iconst 1, 1) := by decide +kernel
theorem dX9_wakeNow_18 : decode cX9_wakeNow 18 = .ok (.iastore, 1) := by decide +kernel
theorem dX9_wakeNow_19 : decode cX9_wakeNow 19 = .ok (.aload_n 0, 1) := by decide +kernel
theorem dX9_wakeNow_20 : decode cX9_wakeNow 20 = .ok (.getfield 7, 3) := by decide +kernel
theorem dX9_wakeNow_23 : decode cX9_wakeNow 23 = .ok (.bipush 10, 2) := by decide +kernel
theorem dX9_wakeNow_25 : decode cX9_wakeNow 25 = .ok (.iconst 4, 1) := by decide +kernel
theorem dX9_wakeNow_26 : decode cX9_wakeNow 26 = .ok (.iload_n 1, 1) := by decide +kernel
theorem dX9_wakeNow_27 : decode cX9_wakeNow 27 = .ok (.imul, 1) := by decide +kernel
theorem dX9_wakeNow_28 : decode cX9_wakeNow 28 = .ok (.iadd, 1) := by decide +kernel
theorem dX9_wakeNow_29 : decode cX9_wakeNow 29 = .ok (.iconst 1, 1) := by decide +kernel
theorem dX9_wakeNow_30 : decode cX9_wakeNow 30 = .ok (.iadd, 1) := by decide +kernel
theorem dX9_wakeNow_31 : decode cX9_wakeNow 31 = .ok (.iconst (-1), 1) := by decide +kernel
theorem dX9_wakeNow_32 : decode cX9_wakeNow 32 = .ok (.iastore, 1) := by decide +kernel
theorem dX9_wakeNow_33 : decode cX9_wakeNow 33 = .ok (.iconst 0, 1) := by decide +kernel
theorem dX9_wakeNow_34 : decode cX9_wakeNow 34 = .ok (.istore_n 3, 1) := by decide +kernel
theorem dX9_wakeNow_35 : decode cX9_wakeNow 35 = .ok (.iload_n 3, 1) := by decide +kernel
theorem dX9_wakeNow_36 : decode cX9_wakeNow 36 = .ok (.aload_n 0, 1) := by decide +kernel
theorem dX9_wakeNow_37 : decode cX9_wakeNow 37 = .ok (.iload_n 1, 1) := by decide +kernel
theorem dX9_wakeNow_38 : decode cX9_wakeNow 38 = .ok (.invokevirtual 73, 3) := by decide +kernel
theorem dX9_wakeNow_41 : decode cX9_wakeNow 41 = .ok (.if_icmp .ge 83, 3) := by decide +kernel
theorem dX9_wakeNow_44 : decode cX9_wakeNow 44 = .ok (.iload_n 1, 1) := by decide +kernel
theorem dX9_wakeNow_45 : decode cX9_wakeNow 45 = .ok (.iload_n 3, 1) := by decide +kernel
theorem dX9_wakeNow_46 : decode cX9_wakeNow 46 = .ok (.invokestatic 55, 3) := by decide +kernel
theorem dX9_wakeNow_49 : decode cX9_wakeNow 49 = .ok (.istore 4, 2) := by decide +kernel
theorem dX9_wakeNow_51 : decode cX9_wakeNow 51 = .ok (.aload_n 0, 1) := by decide +kernel
theorem dX9_wakeNow_52 : decode cX9_wakeNow 52 = .ok (.getfield 7, 3) := by decide +kernel
theorem dX9_wakeNow_55 : decode cX9_wakeNow 55 = .ok (.iload 4, 2) := by decide +kernel
theorem dX9_wakeNow_57 : decode cX9_wakeNow 57 = .ok (.iconst 4, 1) := by decide +kernel
theorem dX9_wakeNow_58 : decode cX9_wakeNow 58 = .ok (.iadd, 1) := by decide +kernel
theorem dX9_wakeNow_59 : decode cX9_wakeNow 59 = .ok (.iaload, 1) := by decide +kernel
theorem dX9_wakeNow_60 : decode cX9_wakeNow 60 = .ok (.iconst 3, 1) := by decide +kernel
theorem dX9_wakeNow_61 : decode cX9_wakeNow 61 = .ok (.if_icmp .ne 57, 3) := by decide +kernel
theorem dX9_wakeNow_64 : decode cX9_wakeNow 64 = .ok (.aload_n 0, 1) := by decide +kernel
theorem dX9_wakeNow_65 : decode cX9_wakeNow 65 = .ok (.getfield 7, 3) := by decide +kernel
theorem dX9_wakeNow_68 : decode cX9_wakeNow 68 = .ok (.iload 4, 2) := by decide +kernel
theorem dX9_wakeNow_70 : decode cX9_wakeNow 70 = .ok (.bipush 6, 2) := by decide +kernel
theorem dX9_wakeNow_72 : decode cX9_wakeNow 72 = .ok (.iadd, 1) := by decide +kernel
theorem dX9_wakeNow_73 : decode cX9_wakeNow 73 = .ok (.iaload, 1) := by decide +kernel
theorem dX9_wakeNow_74 : decode cX9_wakeNow 74 = .ok (.iconst 1, 1) := by decide +kernel
theorem dX9_wakeNow_75 : decode cX9_wakeNow 75 = .ok (.if_icmp .ne 36, 3) := by decide +kernel
theorem dX9_wakeNow_78 : decode cX9_wakeNow 78 = .ok (.aload_n 0, 1) := by decide +kernel
theorem dX9_wakeNow_79 : decode cX9_wakeNow 79 = .ok (.iload_n 1, 1) := by decide +kernel
theorem dX9_wakeNow_80 : decode cX9_wakeNow 80 = .ok (.iload 4, 2) := by decide +kernel
theorem dX9_wakeNow_82 : decode cX9_wakeNow 82 = .ok (.invokevirtual 162, 3) := by decide +kernel
theorem dX9_wakeNow_85 : decode cX9_wakeNow 85 = .ok (.ifCond .eq 26, 3) := by decide +kernel
theorem dX9_wakeNow_88 : decode cX9_wakeNow 88 = .ok (.aload_n 0, 1) := by decide +kernel
theorem dX9_wakeNow_89 : decode cX9_wakeNow 89 = .ok (.getfield 7, 3) := by decide +kernel
theorem dX9_wakeNow_92 : decode cX9_wakeNow 92 = .ok (.iload 4, 2) := by decide +kernel
theorem dX9_wakeNow_94 : decode cX9_wakeNow 94 = .ok (.iconst 4, 1) := by decide +kernel
theorem dX9_wakeNow_95 : decode cX9_wakeNow 95 = .ok (.iadd, 1) := by decide +kernel
theorem dX9_wakeNow_96 : decode cX9_wakeNow 96 = .ok (.iconst 0, 1) := by decide +kernel
theorem dX9_wakeNow_97 : decode cX9_wakeNow 97 = .ok (.iastore, 1) := by decide +kernel
theorem dX9_wakeNow_98 : decode cX9_wakeNow 98 = .ok (.aload_n 0, 1) := by decide +kernel
theorem dX9_wakeNow_99 : decode cX9_wakeNow 99 = .ok (.getfield 7, 3) := by decide +kernel
theorem dX9_wakeNow_102 : decode cX9_wakeNow 102 = .ok (.iload 4, 2) := by decide +kernel
theorem dX9_wakeNow_104 : decode cX9_wakeNow 104 = .ok (.iconst 5, 1) := by decide +kernel
theorem dX9_wakeNow_105 : decode cX9_wakeNow 105 = .ok (.iadd, 1) := by decide +kernel
theorem dX9_wakeNow_106 : decode cX9_wakeNow 106 = .ok (.iconst 0, 1) := by decide +kernel
theorem dX9_wakeNow_107 : decode cX9_wakeNow 107 = .ok (.iastore, 1) := by decide +kernel
theorem dX9_wakeNow_108 : decode cX9_wakeNow 108 = .ok (.goto 10, 3) := by decide +kernel
theorem dX9_wakeNow_111 : decode cX9_wakeNow 111 = .ok (.aload_n 0, 1) := by decide +kernel
theorem dX9_wakeNow_112 : decode cX9_wakeNow 112 = .ok (.iload_n 1, 1) := by decide +kernel
theorem dX9_wakeNow_113 : decode cX9_wakeNow 113 = .ok (.iload 4, 2) := by decide +kernel
theorem dX9_wakeNow_115 : decode cX9_wakeNow 115 = .ok (.invokevirtual 122, 3) := by decide +kernel
theorem dX9_wakeNow_118 : decode cX9_wakeNow 118 = .ok (.iinc 3 1, 3) := by decide +kernel
theorem dX9_wakeNow_121 : decode cX9_wakeNow 121 = .ok (.goto (-86), 3) := by decide +kernel
theorem dX9_wakeNow_124 : decode cX9_wakeNow 124 = .ok (.aload_n 0, 1) := by decide +kernel
theorem dX9_wakeNow_125 : decode cX9_wakeNow 125 = .ok (.getfield 7, 3) := by decide +kernel
theorem dX9_wakeNow_128 : decode cX9_wakeNow 128 = .ok (.iconst 2, 1) := by decide +kernel
theorem dX9_wakeNow_129 : decode cX9_wakeNow 129 = .ok (.iaload, 1) := by decide +kernel
theorem dX9_wakeNow_130 : decode cX9_wakeNow 130 = .ok (.iload_n 2, 1) := by decide +kernel
theorem dX9_wakeNow_131 : decode cX9_wakeNow 131 = .ok (.isub, 1) := by decide +kernel
theorem dX9_wakeNow_132 : decode cX9_wakeNow 132 = .ok (.ireturn, 1) := by decide +kernel
theorem dX9_wakes_0 : decode cX9_wakes 0 = .ok (.aload_n 0, 1) := by decide +kernel
theorem dX9_wakes_1 : decode cX9_wakes 1 = .ok (.iload_n 1, 1) := by decide +kernel
theorem dX9_wakes_2 : decode cX9_wakes 2 = .ok (.invokevirtual 221, 3) := by decide +kernel
theorem dX9_wakes_5 : decode cX9_wakes 5 = .ok (.istore_n 2, 1) := by decide +kernel
theorem dX9_wakes_6 : decode cX9_wakes 6 = .ok (.iload_n 2, 1) := by decide +kernel
theorem dX9_wakes_7 : decode cX9_wakes 7 = .ok (.ifCond .ge 9, 3) := by decide +kernel
theorem dX9_wakes_10 : decode cX9_wakes 10 = .ok (.aload_n 0, 1) := by decide +kernel
theorem dX9_wakes_11 : decode cX9_wakes 11 = .ok (.iload_n 2, 1) := by decide +kernel
theorem dX9_wakes_12 : decode cX9_wakes 12 = .ok (.invokevirtual 97, 3) := by decide +kernel
theorem dX9_wakes_15 : decode cX9_wakes 15 = .ok (.ireturn, 1) := by decide +kernel
theorem dX9_wakes_16 : decode cX9_wakes 16 = .ok (.aload_n 0, 1) := by decide +kernel
theorem dX9_wakes_17 : decode cX9_wakes 17 = .ok (.invokevirtual 100, 3) := by decide +kernel
theorem dX9_wakes_20 : decode cX9_wakes 20 = .ok (.aload_n 0, 1) := by decide +kernel
theorem dX9_wakes_21 : decode cX9_wakes 21 = .ok (.iload_n 1, 1) := by decide +kernel
theorem dX9_wakes_22 : decode cX9_wakes 22 = .ok (.invokevirtual 224, 3) := by decide +kernel
theorem dX9_wakes_25 : decode cX9_wakes 25 = .ok (.ireturn, 1) := by decide +kernel
theorem dX9_type_0 : decode cX9_type 0 = .ok (.iload_n 1, 1) := by decide +kernel
theorem dX9_type_1 : decode cX9_type 1 = .ok (.i2l, 1) := by decide +kernel
theorem dX9_type_2 : decode cX9_type 2 = .ok (.lconst 0, 1) := by decide +kernel
theorem dX9_type_3 : decode cX9_type 3 = .ok (.ldc2_w 227, 3) := by decide +kernel
theorem dX9_type_6 : decode cX9_type 6 = .ok (.invokestatic 47, 3) := by decide +kernel
theorem dX9_type_9 : decode cX9_type 9 = .ok (.ifCond .ne 10, 3) := by decide +kernel
theorem dX9_type_12 : decode cX9_type 12 = .ok (.aload_n 0, 1) := by decide +kernel
theorem dX9_type_13 : decode cX9_type 13 = .ok (.bipush (-2), 2) := by decide +kernel
theorem dX9_type_15 : decode cX9_type 15 = .ok (.invokevirtual 97, 3) := by decide +kernel
theorem dX9_type_18 : decode cX9_type 18 = .ok (.ireturn, 1) := by decide +kernel
theorem dX9_type_19 : decode cX9_type 19 = .ok (.aload_n 0, 1) := by decide +kernel
theorem dX9_type_20 : decode cX9_type 20 = .ok (.getfield 229, 3) := by decide +kernel
theorem dX9_type_23 : decode cX9_type 23 = .ok (.bipush 120, 2) := by decide +kernel
theorem dX9_type_25 : decode cX9_type 25 = .ok (.if_icmp .ne 10, 3) := by decide +kernel
theorem dX9_type_28 : decode cX9_type 28 = .ok (.aload_n 0, 1) := by decide +kernel
theorem dX9_type_29 : decode cX9_type 29 = .ok (.bipush (-4), 2) := by decide +kernel
theorem dX9_type_31 : decode cX9_type 31 = .ok (.invokevirtual 97, 3) := by decide +kernel
theorem dX9_type_34 : decode cX9_type 34 = .ok (.ireturn, 1) := by decide +kernel
theorem dX9_type_35 : decode cX9_type 35 = .ok (.aload_n 0, 1) := by decide +kernel
theorem dX9_type_36 : decode cX9_type 36 = .ok (.getfield 30, 3) := by decide +kernel
theorem dX9_type_39 : decode cX9_type 39 = .ok (.aload_n 0, 1) := by decide +kernel
theorem dX9_type_40 : decode cX9_type 40 = .ok (.getfield 229, 3) := by decide +kernel
theorem dX9_type_43 : decode cX9_type 43 = .ok (.iload_n 1, 1) := by decide +kernel
theorem dX9_type_44 : decode cX9_type 44 = .ok (.iastore, 1) := by decide +kernel
theorem dX9_type_45 : decode cX9_type 45 = .ok (.aload_n 0, 1) := by decide +kernel
theorem dX9_type_46 : decode cX9_type 46 = .ok (.dup, 1) := by decide +kernel
theorem dX9_type_47 : decode cX9_type 47 = .ok (.getfield 229, 3) := by decide +kernel
theorem dX9_type_50 : decode cX9_type 50 = .ok (.iconst 1, 1) := by decide +kernel
theorem dX9_type_51 : decode cX9_type 51 = .ok (.iadd, 1) := by decide +kernel
theorem dX9_type_52 : decode cX9_type 52 = .ok (.putfield 229, 3) := by decide +kernel
theorem dX9_type_55 : decode cX9_type 55 = .ok (.aload_n 0, 1) := by decide +kernel
theorem dX9_type_56 : decode cX9_type 56 = .ok (.getfield 229, 3) := by decide +kernel
theorem dX9_type_59 : decode cX9_type 59 = .ok (.ireturn, 1) := by decide +kernel
theorem dX9_clear_0 : decode cX9_clear 0 = .ok (.aload_n 0, 1) := by decide +kernel
theorem dX9_clear_1 : decode cX9_clear 1 = .ok (.getfield 229, 3) := by decide +kernel
theorem dX9_clear_4 : decode cX9_clear 4 = .ok (.istore_n 1, 1) := by decide +kernel
theorem dX9_clear_5 : decode cX9_clear 5 = .ok (.aload_n 0, 1) := by decide +kernel
theorem dX9_clear_6 : decode cX9_clear 6 = .ok (.iconst 0, 1) := by decide +kernel
theorem dX9_clear_7 : decode cX9_clear 7 = .ok (.putfield 229, 3) := by decide +kernel
theorem dX9_clear_10 : decode cX9_clear 10 = .ok (.iload_n 1, 1) := by decide +kernel
theorem dX9_clear_11 : decode cX9_clear 11 = .ok (.ireturn, 1) := by decide +kernel
theorem dX9_here_0 : decode cX9_here 0 = .ok (.aload_n 0, 1) := by decide +kernel
theorem dX9_here_1 : decode cX9_here 1 = .ok (.getfield 232, 3) := by decide +kernel
theorem dX9_here_4 : decode cX9_here 4 = .ok (.aload_n 0, 1) := by decide +kernel
theorem dX9_here_5 : decode cX9_here 5 = .ok (.getfield 229, 3) := by decide +kernel
theorem dX9_here_8 : decode cX9_here 8 = .ok (.if_icmp .ge 30, 3) := by decide +kernel
theorem dX9_here_11 : decode cX9_here 11 = .ok (.aload_n 0, 1) := by decide +kernel
theorem dX9_here_12 : decode cX9_here 12 = .ok (.getfield 30, 3) := by decide +kernel
theorem dX9_here_15 : decode cX9_here 15 = .ok (.aload_n 0, 1) := by decide +kernel
theorem dX9_here_16 : decode cX9_here 16 = .ok (.getfield 232, 3) := by decide +kernel
theorem dX9_here_19 : decode cX9_here 19 = .ok (.iaload, 1) := by decide +kernel
theorem dX9_here_20 : decode cX9_here 20 = .ok (.bipush 32, 2) := by decide +kernel
theorem dX9_here_22 : decode cX9_here 22 = .ok (.if_icmp .ne 16, 3) := by decide +kernel
theorem dX9_here_25 : decode cX9_here 25 = .ok (.aload_n 0, 1) := by decide +kernel
theorem dX9_here_26 : decode cX9_here 26 = .ok (.dup, 1) := by decide +kernel
theorem dX9_here_27 : decode cX9_here 27 = .ok (.getfield 232, 3) := by decide +kernel
theorem dX9_here_30 : decode cX9_here 30 = .ok (.iconst 1, 1) := by decide +kernel
theorem dX9_here_31 : decode cX9_here 31 = .ok (.iadd, 1) := by decide +kernel
theorem dX9_here_32 : decode cX9_here 32 = .ok (.putfield 232, 3) := by decide +kernel
theorem dX9_here_35 : decode cX9_here 35 = .ok (.goto (-35), 3) := by decide +kernel
theorem dX9_here_38 : decode cX9_here 38 = .ok (.aload_n 0, 1) := by decide +kernel
theorem dX9_here_39 : decode cX9_here 39 = .ok (.getfield 232, 3) := by decide +kernel
theorem dX9_here_42 : decode cX9_here 42 = .ok (.aload_n 0, 1) := by decide +kernel
theorem dX9_here_43 : decode cX9_here 43 = .ok (.getfield 229, 3) := by decide +kernel
theorem dX9_here_46 : decode cX9_here 46 = .ok (.if_icmp .ge 15, 3) := by decide +kernel
theorem dX9_here_49 : decode cX9_here 49 = .ok (.aload_n 0, 1) := by decide +kernel
theorem dX9_here_50 : decode cX9_here 50 = .ok (.getfield 30, 3) := by decide +kernel
theorem dX9_here_53 : decode cX9_here 53 = .ok (.aload_n 0, 1) := by decide +kernel
theorem dX9_here_54 : decode cX9_here 54 = .ok (.getfield 232, 3) := by decide +kernel
theorem dX9_here_57 : decode cX9_here 57 = .ok (.iaload, 1) := by decide +kernel
theorem dX9_here_58 : decode cX9_here 58 = .ok (.goto 4, 3) := by decide +kernel
theorem dX9_here_61 : decode cX9_here 61 = .ok (.iconst (-1), 1) := by decide +kernel
theorem dX9_here_62 : decode cX9_here 62 = .ok (.ireturn, 1) := by decide +kernel
theorem dX9_isFigure_0 : decode cX9_isFigure 0 = .ok (.iload_n 1, 1) := by decide +kernel
theorem dX9_isFigure_1 : decode cX9_isFigure 1 = .ok (.aload_n 0, 1) := by decide +kernel
theorem dX9_isFigure_2 : decode cX9_isFigure 2 = .ok (.getfield 229, 3) := by decide +kernel
theorem dX9_isFigure_5 : decode cX9_isFigure 5 = .ok (.if_icmp .ge 26, 3) := by decide +kernel
theorem dX9_isFigure_8 : decode cX9_isFigure 8 = .ok (.aload_n 0, 1) := by decide +kernel
theorem dX9_isFigure_9 : decode cX9_isFigure 9 = .ok (.getfield 30, 3) := by decide +kernel
theorem dX9_isFigure_12 : decode cX9_isFigure 12 = .ok (.iload_n 1, 1) := by decide +kernel
theorem dX9_isFigure_13 : decode cX9_isFigure 13 = .ok (.iaload, 1) := by decide +kernel
theorem dX9_isFigure_14 : decode cX9_isFigure 14 = .ok (.i2l, 1) := by decide +kernel
theorem dX9_isFigure_15 : decode cX9_isFigure 15 = .ok (.ldc2_w 235, 3) := by decide +kernel
theorem dX9_isFigure_18 : decode cX9_isFigure 18 = .ok (.ldc2_w 237, 3) := by decide +kernel
theorem dX9_isFigure_21 : decode cX9_isFigure 21 = .ok (.invokestatic 47, 3) := by decide +kernel
theorem dX9_isFigure_24 : decode cX9_isFigure 24 = .ok (.ifCond .eq 7, 3) := by decide +kernel
theorem dX9_isFigure_27 : decode cX9_isFigure 27 = .ok (.iconst 1, 1) := by decide +kernel
theorem dX9_isFigure_28 : decode cX9_isFigure 28 = .ok (.goto 4, 3) := by decide +kernel
theorem dX9_isFigure_31 : decode cX9_isFigure 31 = .ok (.iconst 0, 1) := by decide +kernel
theorem dX9_isFigure_32 : decode cX9_isFigure 32 = .ok (.ireturn, 1) := by decide +kernel
theorem dX9_takes_0 : decode cX9_takes 0 = .ok (.aload_n 0, 1) := by decide +kernel
theorem dX9_takes_1 : decode cX9_takes 1 = .ok (.invokevirtual 239, 3) := by decide +kernel
theorem dX9_takes_4 : decode cX9_takes 4 = .ok (.istore_n 2, 1) := by decide +kernel
theorem dX9_takes_5 : decode cX9_takes 5 = .ok (.iconst 0, 1) := by decide +kernel
theorem dX9_takes_6 : decode cX9_takes 6 = .ok (.istore_n 3, 1) := by decide +kernel
theorem dX9_takes_7 : decode cX9_takes 7 = .ok (.aload_n 0, 1) := by decide +kernel
theorem dX9_takes_8 : decode cX9_takes 8 = .ok (.getfield 33, 3) := by decide +kernel
theorem dX9_takes_11 : decode cX9_takes 11 = .ok (.iload_n 1, 1) := by decide +kernel
theorem dX9_takes_12 : decode cX9_takes 12 = .ok (.iconst 0, 1) := by decide +kernel
theorem dX9_takes_13 : decode cX9_takes 13 = .ok (.iastore, 1) := by decide +kernel
theorem dX9_takes_14 : decode cX9_takes 14 = .ok (.aload_n 0, 1) := by decide +kernel
theorem dX9_takes_15 : decode cX9_takes 15 = .ok (.aload_n 0, 1) := by decide +kernel
theorem dX9_takes_16 : decode cX9_takes 16 = .ok (.getfield 232, 3) := by decide +kernel
theorem dX9_takes_19 : decode cX9_takes 19 = .ok (.invokevirtual 242, 3) := by decide +kernel
theorem dX9_takes_22 : decode cX9_takes 22 = .ok (.ifCond .eq 52, 3) := by decide +kernel
theorem dX9_takes_25 : decode cX9_takes 25 = .ok (.iload_n 3, 1) := by decide +kernel
theorem dX9_takes_26 : decode cX9_takes 26 = .ok (.iconst 3, 1) := by decide +kernel
theorem dX9_takes_27 : decode cX9_takes 27 = .ok (.if_icmp .ge 47, 3) := by decide +kernel
theorem dX9_takes_30 : decode cX9_takes 30 = .ok (.aload_n 0, 1) := by decide +kernel
theorem dX9_takes_31 : decode cX9_takes 31 = .ok (.getfield 33, 3) := by decide +kernel
theorem dX9_takes_34 : decode cX9_takes 34 = .ok (.iload_n 1, 1) := by decide +kernel
theorem dX9_takes_35 : decode cX9_takes 35 = .ok (.bipush 10, 2) := by decide +kernel
theorem dX9_takes_37 : decode cX9_takes 37 = .ok (.aload_n 0, 1) := by decide +kernel
theorem dX9_takes_38 : decode cX9_takes 38 = .ok (.getfield 33, 3) := by decide +kernel
theorem dX9_takes_41 : decode cX9_takes 41 = .ok (.iload_n 1, 1) := by decide +kernel
theorem dX9_takes_42 : decode cX9_takes 42 = .ok (.iaload, 1) := by decide +kernel
theorem dX9_takes_43 : decode cX9_takes 43 = .ok (.imul, 1) := by decide +kernel
theorem dX9_takes_44 : decode cX9_takes 44 = .ok (.aload_n 0, 1) := by decide +kernel
theorem dX9_takes_45 : decode cX9_takes 45 = .ok (.getfield 30, 3) := by decide +kernel
theorem dX9_takes_48 : decode cX9_takes 48 = .ok (.aload_n 0, 1) := by decide +kernel
theorem dX9_takes_49 : decode cX9_takes 49 = .ok (.getfield 232, 3) := by decide +kernel
theorem dX9_takes_52 : decode cX9_takes 52 = .ok (.iaload, 1) := by decide +kernel
theorem dX9_takes_53 : decode cX9_takes 53 = .ok (.iadd, 1) := by decide +kernel
theorem dX9_takes_54 : decode cX9_takes 54 = .ok (.bipush 48, 2) := by decide +kernel
theorem dX9_takes_56 : decode cX9_takes 56 = .ok (.isub, 1) := by decide +kernel
theorem dX9_takes_57 : decode cX9_takes 57 = .ok (.iastore, 1) := by decide +kernel
theorem dX9_takes_58 : decode cX9_takes 58 = .ok (.aload_n 0, 1) := by decide +kernel
theorem dX9_takes_59 : decode cX9_takes 59 = .ok (.dup, 1) := by decide +kernel
theorem dX9_takes_60 : decode cX9_takes 60 = .ok (.getfield 232, 3) := by decide +kernel
theorem dX9_takes_63 : decode cX9_takes 63 = .ok (.iconst 1, 1) := by decide +kernel
theorem dX9_takes_64 : decode cX9_takes 64 = .ok (.iadd, 1) := by decide +kernel
theorem dX9_takes_65 : decode cX9_takes 65 = .ok (.putfield 232, 3) := by decide +kernel
theorem dX9_takes_68 : decode cX9_takes 68 = .ok (.iinc 3 1, 3) := by decide +kernel
theorem dX9_takes_71 : decode cX9_takes 71 = .ok (.goto (-57), 3) := by decide +kernel
theorem dX9_takes_74 : decode cX9_takes 74 = .ok (.iload_n 2, 1) := by decide +kernel
theorem dX9_takes_75 : decode cX9_takes 75 = .ok (.iconst (-1), 1) := by decide +kernel
theorem dX9_takes_76 : decode cX9_takes 76 = .ok (.if_icmp .eq 22, 3) := by decide +kernel
theorem dX9_takes_79 : decode cX9_takes 79 = .ok (.iload_n 3, 1) := by decide +kernel
theorem dX9_takes_80 : decode cX9_takes 80 = .ok (.ifCond .le 18, 3) := by decide +kernel
theorem dX9_takes_83 : decode cX9_takes 83 = .ok (.aload_n 0, 1) := by decide +kernel
theorem dX9_takes_84 : decode cX9_takes 84 = .ok (.aload_n 0, 1) := by decide +kernel
theorem dX9_takes_85 : decode cX9_takes 85 = .ok (.getfield 232, 3) := by decide +kernel
theorem dX9_takes_88 : decode cX9_takes 88 = .ok (.invokevirtual 242, 3) := by decide +kernel
theorem dX9_takes_91 : decode cX9_takes 91 = .ok (.ifCond .ne 7, 3) := by decide +kernel
theorem dX9_takes_94 : decode cX9_takes 94 = .ok (.iconst 1, 1) := by decide +kernel
theorem dX9_takes_95 : decode cX9_takes 95 = .ok (.goto 4, 3) := by decide +kernel
theorem dX9_takes_98 : decode cX9_takes 98 = .ok (.iconst 0, 1) := by decide +kernel
theorem dX9_takes_99 : decode cX9_takes 99 = .ok (.ireturn, 1) := by decide +kernel
theorem dX9_numbersOf_0 : decode cX9_numbersOf 0 = .ok (.iload_n 0, 1) := by decide +kernel
theorem dX9_numbersOf_1 : decode cX9_numbersOf 1 = .ok (.tableswitch 129 97 122 #[125, 129, 127, 129, 129, 129, 123, 119, 129, 129, 129, 129, 129, 129, 129, 129, 129, 129, 127, 121, 129, 129, 121, 129, 129, 121], 119) := by decide +kernel
theorem dX9_numbersOf_120 : decode cX9_numbersOf 120 = .ok (.iconst 0, 1) := by decide +kernel
theorem dX9_numbersOf_121 : decode cX9_numbersOf 121 = .ok (.ireturn, 1) := by decide +kernel
theorem dX9_numbersOf_122 : decode cX9_numbersOf 122 = .ok (.iconst 1, 1) := by decide +kernel
theorem dX9_numbersOf_123 : decode cX9_numbersOf 123 = .ok (.ireturn, 1) := by decide +kernel
theorem dX9_numbersOf_124 : decode cX9_numbersOf 124 = .ok (.iconst 2, 1) := by decide +kernel
theorem dX9_numbersOf_125 : decode cX9_numbersOf 125 = .ok (.ireturn, 1) := by decide +kernel
theorem dX9_numbersOf_126 : decode cX9_numbersOf 126 = .ok (.iconst 3, 1) := by decide +kernel
theorem dX9_numbersOf_127 : decode cX9_numbersOf 127 = .ok (.ireturn, 1) := by decide +kernel
theorem dX9_numbersOf_128 : decode cX9_numbersOf 128 = .ok (.iconst 5, 1) := by decide +kernel
theorem dX9_numbersOf_129 : decode cX9_numbersOf 129 = .ok (.ireturn, 1) := by decide +kernel
theorem dX9_numbersOf_130 : decode cX9_numbersOf 130 = .ok (.iconst (-1), 1) := by decide +kernel
theorem dX9_numbersOf_131 : decode cX9_numbersOf 131 = .ok (.ireturn, 1) := by decide +kernel
theorem dX9_can_0 : decode cX9_can 0 = .ok (.aload_n 0, 1) := by decide +kernel
theorem dX9_can_1 : decode cX9_can 1 = .ok (.getfield 33, 3) := by decide +kernel
theorem dX9_can_4 : decode cX9_can 4 = .ok (.iconst 0, 1) := by decide +kernel
theorem dX9_can_5 : decode cX9_can 5 = .ok (.iaload, 1) := by decide +kernel
theorem dX9_can_6 : decode cX9_can 6 = .ok (.istore_n 2, 1) := by decide +kernel
theorem dX9_can_7 : decode cX9_can 7 = .ok (.iload_n 1, 1) := by decide +kernel
theorem dX9_can_8 : decode cX9_can 8 = .ok (.lookupswitch 132 #[(97, 114), (103, 102), (104, 60), (116, 65), (119, 96), (122, 84)], 60) := by decide +kernel
theorem dX9_can_68 : decode cX9_can 68 = .ok (.aload_n 0, 1) := by decide +kernel
theorem dX9_can_69 : decode cX9_can 69 = .ok (.invokevirtual 93, 3) := by decide +kernel
theorem dX9_can_72 : decode cX9_can 72 = .ok (.ireturn, 1) := by decide +kernel
theorem dX9_can_73 : decode cX9_can 73 = .ok (.iload_n 2, 1) := by decide +kernel
theorem dX9_can_74 : decode cX9_can 74 = .ok (.i2l, 1) := by decide +kernel
theorem dX9_can_75 : decode cX9_can 75 = .ok (.lconst 1, 1) := by decide +kernel
theorem dX9_can_76 : decode cX9_can 76 = .ok (.ldc2_w 120, 3) := by decide +kernel
theorem dX9_can_79 : decode cX9_can 79 = .ok (.invokestatic 47, 3) := by decide +kernel
theorem dX9_can_82 : decode cX9_can 82 = .ok (.ifCond .eq 7, 3) := by decide +kernel
theorem dX9_can_85 : decode cX9_can 85 = .ok (.iconst 0, 1) := by decide +kernel
theorem dX9_can_86 : decode cX9_can 86 = .ok (.goto 5, 3) := by decide +kernel
theorem dX9_can_89 : decode cX9_can 89 = .ok (.bipush (-2), 2) := by decide +kernel
theorem dX9_can_91 : decode cX9_can 91 = .ok (.ireturn, 1) := by decide +kernel
theorem dX9_can_92 : decode cX9_can 92 = .ok (.aload_n 0, 1) := by decide +kernel
theorem dX9_can_93 : decode cX9_can 93 = .ok (.iload_n 2, 1) := by decide +kernel
theorem dX9_can_94 : decode cX9_can 94 = .ok (.aload_n 0, 1) := by decide +kernel
theorem dX9_can_95 : decode cX9_can 95 = .ok (.getfield 33, 3) := by decide +kernel
theorem dX9_can_98 : decode cX9_can 98 = .ok (.iconst 1, 1) := by decide +kernel
theorem dX9_can_99 : decode cX9_can 99 = .ok (.iaload, 1) := by decide +kernel
theorem dX9_can_100 : decode cX9_can 100 = .ok (.invokevirtual 215, 3) := by decide +kernel
theorem dX9_can_103 : decode cX9_can 103 = .ok (.ireturn, 1) := by decide +kernel
theorem dX9_can_104 : decode cX9_can 104 = .ok (.aload_n 0, 1) := by decide +kernel
theorem dX9_can_105 : decode cX9_can 105 = .ok (.iload_n 2, 1) := by decide +kernel
theorem dX9_can_106 : decode cX9_can 106 = .ok (.invokevirtual 221, 3) := by decide +kernel
theorem dX9_can_109 : decode cX9_can 109 = .ok (.ireturn, 1) := by decide +kernel
theorem dX9_can_110 : decode cX9_can 110 = .ok (.aload_n 0, 1) := by decide +kernel
theorem dX9_can_111 : decode cX9_can 111 = .ok (.iload_n 2, 1) := by decide +kernel
theorem dX9_can_112 : decode cX9_can 112 = .ok (.aload_n 0, 1) := by decide +kernel
theorem dX9_can_113 : decode cX9_can 113 = .ok (.getfield 33, 3) := by decide +kernel
theorem dX9_can_116 : decode cX9_can 116 = .ok (.iconst 1, 1) := by decide +kernel
theorem dX9_can_117 : decode cX9_can 117 = .ok (.iaload, 1) := by decide +kernel
theorem dX9_can_118 : decode cX9_can 118 = .ok (.invokevirtual 136, 3) := by decide +kernel
theorem dX9_can_121 : decode cX9_can 121 = .ok (.ireturn, 1) := by decide +kernel
theorem dX9_can_122 : decode cX9_can 122 = .ok (.aload_n 0, 1) := by decide +kernel
theorem dX9_can_123 : decode cX9_can 123 = .ok (.iload_n 2, 1) := by decide +kernel
theorem dX9_can_124 : decode cX9_can 124 = .ok (.aload_n 0, 1) := by decide +kernel
theorem dX9_can_125 : decode cX9_can 125 = .ok (.getfield 33, 3) := by decide +kernel
theorem dX9_can_128 : decode cX9_can 128 = .ok (.iconst 1, 1) := by decide +kernel
theorem dX9_can_129 : decode cX9_can 129 = .ok (.iaload, 1) := by decide +kernel
theorem dX9_can_130 : decode cX9_can 130 = .ok (.aload_n 0, 1) := by decide +kernel
theorem dX9_can_131 : decode cX9_can 131 = .ok (.getfield 33, 3) := by decide +kernel
theorem dX9_can_134 : decode cX9_can 134 = .ok (.iconst 2, 1) := by decide +kernel
theorem dX9_can_135 : decode cX9_can 135 = .ok (.iaload, 1) := by decide +kernel
theorem dX9_can_136 : decode cX9_can 136 = .ok (.invokevirtual 191, 3) := by decide +kernel
theorem dX9_can_139 : decode cX9_can 139 = .ok (.ireturn, 1) := by decide +kernel
theorem dX9_can_140 : decode cX9_can 140 = .ok (.aload_n 0, 1) := by decide +kernel
theorem dX9_can_141 : decode cX9_can 141 = .ok (.iload_n 2, 1) := by decide +kernel
theorem dX9_can_142 : decode cX9_can 142 = .ok (.aload_n 0, 1) := by decide +kernel
theorem dX9_can_143 : decode cX9_can 143 = .ok (.getfield 33, 3) := by decide +kernel
theorem dX9_can_146 : decode cX9_can 146 = .ok (.iconst 1, 1) := by decide +kernel
theorem dX9_can_147 : decode cX9_can 147 = .ok (.iaload, 1) := by decide +kernel
theorem dX9_can_148 : decode cX9_can 148 = .ok (.aload_n 0, 1) := by decide +kernel
theorem dX9_can_149 : decode cX9_can 149 = .ok (.getfield 33, 3) := by decide +kernel
theorem dX9_can_152 : decode cX9_can 152 = .ok (.iconst 2, 1) := by decide +kernel
theorem dX9_can_153 : decode cX9_can 153 = .ok (.iaload, 1) := by decide +kernel
theorem dX9_can_154 : decode cX9_can 154 = .ok (.aload_n 0, 1) := by decide +kernel
theorem dX9_can_155 : decode cX9_can 155 = .ok (.getfield 33, 3) := by decide +kernel
theorem dX9_can_158 : decode cX9_can 158 = .ok (.iconst 3, 1) := by decide +kernel
theorem dX9_can_159 : decode cX9_can 159 = .ok (.iaload, 1) := by decide +kernel
theorem dX9_can_160 : decode cX9_can 160 = .ok (.aload_n 0, 1) := by decide +kernel
theorem dX9_can_161 : decode cX9_can 161 = .ok (.getfield 33, 3) := by decide +kernel
theorem dX9_can_164 : decode cX9_can 164 = .ok (.iconst 4, 1) := by decide +kernel
theorem dX9_can_165 : decode cX9_can 165 = .ok (.iaload, 1) := by decide +kernel
theorem dX9_can_166 : decode cX9_can 166 = .ok (.invokevirtual 125, 3) := by decide +kernel
theorem dX9_can_169 : decode cX9_can 169 = .ok (.ireturn, 1) := by decide +kernel
theorem dX9_does_0 : decode cX9_does 0 = .ok (.aload_n 0, 1) := by decide +kernel
theorem dX9_does_1 : decode cX9_does 1 = .ok (.getfield 33, 3) := by decide +kernel
theorem dX9_does_4 : decode cX9_does 4 = .ok (.iconst 0, 1) := by decide +kernel
theorem dX9_does_5 : decode cX9_does 5 = .ok (.iaload, 1) := by decide +kernel
theorem dX9_does_6 : decode cX9_does 6 = .ok (.istore_n 2, 1) := by decide +kernel
theorem dX9_does_7 : decode cX9_does 7 = .ok (.iload_n 1, 1) := by decide +kernel
theorem dX9_does_8 : decode cX9_does 8 = .ok (.lookupswitch 119 #[(97, 101), (103, 89), (104, 60), (116, 65), (119, 83), (122, 71)], 60) := by decide +kernel
theorem dX9_does_68 : decode cX9_does 68 = .ok (.aload_n 0, 1) := by decide +kernel
theorem dX9_does_69 : decode cX9_does 69 = .ok (.invokevirtual 103, 3) := by decide +kernel
theorem dX9_does_72 : decode cX9_does 72 = .ok (.ireturn, 1) := by decide +kernel
theorem dX9_does_73 : decode cX9_does 73 = .ok (.aload_n 0, 1) := by decide +kernel
theorem dX9_does_74 : decode cX9_does 74 = .ok (.iload_n 2, 1) := by decide +kernel
theorem dX9_does_75 : decode cX9_does 75 = .ok (.invokevirtual 179, 3) := by decide +kernel
theorem dX9_does_78 : decode cX9_does 78 = .ok (.ireturn, 1) := by decide +kernel
theorem dX9_does_79 : decode cX9_does 79 = .ok (.aload_n 0, 1) := by decide +kernel
theorem dX9_does_80 : decode cX9_does 80 = .ok (.iload_n 2, 1) := by decide +kernel
theorem dX9_does_81 : decode cX9_does 81 = .ok (.aload_n 0, 1) := by decide +kernel
theorem dX9_does_82 : decode cX9_does 82 = .ok (.getfield 33, 3) := by decide +kernel
theorem dX9_does_85 : decode cX9_does 85 = .ok (.iconst 1, 1) := by decide +kernel
theorem dX9_does_86 : decode cX9_does 86 = .ok (.iaload, 1) := by decide +kernel
theorem dX9_does_87 : decode cX9_does 87 = .ok (.invokevirtual 218, 3) := by decide +kernel
theorem dX9_does_90 : decode cX9_does 90 = .ok (.ireturn, 1) := by decide +kernel
theorem dX9_does_91 : decode cX9_does 91 = .ok (.aload_n 0, 1) := by decide +kernel
theorem dX9_does_92 : decode cX9_does 92 = .ok (.iload_n 2, 1) := by decide +kernel
theorem dX9_does_93 : decode cX9_does 93 = .ok (.invokevirtual 224, 3) := by decide +kernel
theorem dX9_does_96 : decode cX9_does 96 = .ok (.ireturn, 1) := by decide +kernel
theorem dX9_does_97 : decode cX9_does 97 = .ok (.aload_n 0, 1) := by decide +kernel
theorem dX9_does_98 : decode cX9_does 98 = .ok (.iload_n 2, 1) := by decide +kernel
theorem dX9_does_99 : decode cX9_does 99 = .ok (.aload_n 0, 1) := by decide +kernel
theorem dX9_does_100 : decode cX9_does 100 = .ok (.getfield 33, 3) := by decide +kernel
theorem dX9_does_103 : decode cX9_does 103 = .ok (.iconst 1, 1) := by decide +kernel
theorem dX9_does_104 : decode cX9_does 104 = .ok (.iaload, 1) := by decide +kernel
theorem dX9_does_105 : decode cX9_does 105 = .ok (.invokevirtual 139, 3) := by decide +kernel
theorem dX9_does_108 : decode cX9_does 108 = .ok (.ireturn, 1) := by decide +kernel
theorem dX9_does_109 : decode cX9_does 109 = .ok (.aload_n 0, 1) := by decide +kernel
theorem dX9_does_110 : decode cX9_does 110 = .ok (.iload_n 2, 1) := by decide +kernel
theorem dX9_does_111 : decode cX9_does 111 = .ok (.aload_n 0, 1) := by decide +kernel
theorem dX9_does_112 : decode cX9_does 112 = .ok (.getfield 33, 3) := by decide +kernel
theorem dX9_does_115 : decode cX9_does 115 = .ok (.iconst 1, 1) := by decide +kernel
theorem dX9_does_116 : decode cX9_does 116 = .ok (.iaload, 1) := by decide +kernel
theorem dX9_does_117 : decode cX9_does 117 = .ok (.aload_n 0, 1) := by decide +kernel
theorem dX9_does_118 : decode cX9_does 118 = .ok (.getfield 33, 3) := by decide +kernel
theorem dX9_does_121 : decode cX9_does 121 = .ok (.iconst 2, 1) := by decide +kernel
theorem dX9_does_122 : decode cX9_does 122 = .ok (.iaload, 1) := by decide +kernel
theorem dX9_does_123 : decode cX9_does 123 = .ok (.invokevirtual 194, 3) := by decide +kernel
theorem dX9_does_126 : decode cX9_does 126 = .ok (.ireturn, 1) := by decide +kernel
theorem dX9_does_127 : decode cX9_does 127 = .ok (.aload_n 0, 1) := by decide +kernel
theorem dX9_does_128 : decode cX9_does 128 = .ok (.iload_n 2, 1) := by decide +kernel
theorem dX9_does_129 : decode cX9_does 129 = .ok (.aload_n 0, 1) := by decide +kernel
theorem dX9_does_130 : decode cX9_does 130 = .ok (.getfield 33, 3) := by decide +kernel
theorem dX9_does_133 : decode cX9_does 133 = .ok (.iconst 1, 1) := by decide +kernel
theorem dX9_does_134 : decode cX9_does 134 = .ok (.iaload, 1) := by decide +kernel
theorem dX9_does_135 : decode cX9_does 135 = .ok (.aload_n 0, 1) := by decide +kernel
theorem dX9_does_136 : decode cX9_does 136 = .ok (.getfield 33, 3) := by decide +kernel
theorem dX9_does_139 : decode cX9_does 139 = .ok (.iconst 2, 1) := by decide +kernel
theorem dX9_does_140 : decode cX9_does 140 = .ok (.iaload, 1) := by decide +kernel
theorem dX9_does_141 : decode cX9_does 141 = .ok (.aload_n 0, 1) := by decide +kernel
theorem dX9_does_142 : decode cX9_does 142 = .ok (.getfield 33, 3) := by decide +kernel
theorem dX9_does_145 : decode cX9_does 145 = .ok (.iconst 3, 1) := by decide +kernel
theorem dX9_does_146 : decode cX9_does 146 = .ok (.iaload, 1) := by decide +kernel
theorem dX9_does_147 : decode cX9_does 147 = .ok (.aload_n 0, 1) := by decide +kernel
theorem dX9_does_148 : decode cX9_does 148 = .ok (.getfield 33, 3) := by decide +kernel
theorem dX9_does_151 : decode cX9_does 151 = .ok (.iconst 4, 1) := by decide +kernel
theorem dX9_does_152 : decode cX9_does 152 = .ok (.iaload, 1) := by decide +kernel
theorem dX9_does_153 : decode cX9_does 153 = .ok (.iload_n 1, 1) := by decide +kernel
theorem dX9_does_154 : decode cX9_does 154 = .ok (.bipush 99, 2) := by decide +kernel
theorem dX9_does_156 : decode cX9_does 156 = .ok (.if_icmp .ne 7, 3) := by decide +kernel
theorem dX9_does_159 : decode cX9_does 159 = .ok (.iconst 1, 1) := by decide +kernel
theorem dX9_does_160 : decode cX9_does 160 = .ok (.goto 4, 3) := by decide +kernel
theorem dX9_does_163 : decode cX9_does 163 = .ok (.iconst 0, 1) := by decide +kernel
theorem dX9_does_164 : decode cX9_does 164 = .ok (.invokevirtual 129, 3) := by decide +kernel
theorem dX9_does_167 : decode cX9_does 167 = .ok (.ireturn, 1) := by decide +kernel
theorem dX9_readsOrder_0 : decode cX9_readsOrder 0 = .ok (.aload_n 0, 1) := by decide +kernel
theorem dX9_readsOrder_1 : decode cX9_readsOrder 1 = .ok (.invokevirtual 239, 3) := by decide +kernel
theorem dX9_readsOrder_4 : decode cX9_readsOrder 4 = .ok (.istore_n 2, 1) := by decide +kernel
theorem dX9_readsOrder_5 : decode cX9_readsOrder 5 = .ok (.iload_n 2, 1) := by decide +kernel
theorem dX9_readsOrder_6 : decode cX9_readsOrder 6 = .ok (.invokestatic 245, 3) := by decide +kernel
theorem dX9_readsOrder_9 : decode cX9_readsOrder 9 = .ok (.istore_n 3, 1) := by decide +kernel
theorem dX9_readsOrder_10 : decode cX9_readsOrder 10 = .ok (.iload_n 3, 1) := by decide +kernel
theorem dX9_readsOrder_11 : decode cX9_readsOrder 11 = .ok (.iconst (-1), 1) := by decide +kernel
theorem dX9_readsOrder_12 : decode cX9_readsOrder 12 = .ok (.if_icmp .ne 5, 3) := by decide +kernel
theorem dX9_readsOrder_15 : decode cX9_readsOrder 15 = .ok (.iconst 0, 1) := by decide +kernel
theorem dX9_readsOrder_16 : decode cX9_readsOrder 16 = .ok (.ireturn, 1) := by decide +kernel
theorem dX9_readsOrder_17 : decode cX9_readsOrder 17 = .ok (.aload_n 0, 1) := by decide +kernel
theorem dX9_readsOrder_18 : decode cX9_readsOrder 18 = .ok (.dup, 1) := by decide +kernel
theorem dX9_readsOrder_19 : decode cX9_readsOrder 19 = .ok (.getfield 232, 3) := by decide +kernel
theorem dX9_readsOrder_22 : decode cX9_readsOrder 22 = .ok (.iconst 1, 1) := by decide +kernel
theorem dX9_readsOrder_23 : decode cX9_readsOrder 23 = .ok (.iadd, 1) := by decide +kernel
theorem dX9_readsOrder_24 : decode cX9_readsOrder 24 = .ok (.putfield 232, 3) := by decide +kernel
theorem dX9_readsOrder_27 : decode cX9_readsOrder 27 = .ok (.iconst 0, 1) := by decide +kernel
theorem dX9_readsOrder_28 : decode cX9_readsOrder 28 = .ok (.istore 4, 2) := by decide +kernel
theorem dX9_readsOrder_30 : decode cX9_readsOrder 30 = .ok (.iload 4, 2) := by decide +kernel
theorem dX9_readsOrder_32 : decode cX9_readsOrder 32 = .ok (.iload_n 3, 1) := by decide +kernel
theorem dX9_readsOrder_33 : decode cX9_readsOrder 33 = .ok (.if_icmp .ge 20, 3) := by decide +kernel
theorem dX9_readsOrder_36 : decode cX9_readsOrder 36 = .ok (.aload_n 0, 1) := by decide +kernel
theorem dX9_readsOrder_37 : decode cX9_readsOrder 37 = .ok (.iload 4, 2) := by decide +kernel
theorem dX9_readsOrder_39 : decode cX9_readsOrder 39 = .ok (.invokevirtual 248, 3) := by decide +kernel
theorem dX9_readsOrder_42 : decode cX9_readsOrder 42 = .ok (.ifCond .ne 5, 3) := by decide +kernel
theorem dX9_readsOrder_45 : decode cX9_readsOrder 45 = .ok (.iconst 0, 1) := by decide +kernel
theorem dX9_readsOrder_46 : decode cX9_readsOrder 46 = .ok (.ireturn, 1) := by decide +kernel
theorem dX9_readsOrder_47 : decode cX9_readsOrder 47 = .ok (.iinc 4 1, 3) := by decide +kernel
theorem dX9_readsOrder_50 : decode cX9_readsOrder 50 = .ok (.goto (-20), 3) := by decide +kernel
theorem dX9_readsOrder_53 : decode cX9_readsOrder 53 = .ok (.iload_n 2, 1) := by decide +kernel
theorem dX9_readsOrder_54 : decode cX9_readsOrder 54 = .ok (.bipush 122, 2) := by decide +kernel
theorem dX9_readsOrder_56 : decode cX9_readsOrder 56 = .ok (.if_icmp .ne 36, 3) := by decide +kernel
theorem dX9_readsOrder_59 : decode cX9_readsOrder 59 = .ok (.aload_n 0, 1) := by decide +kernel
theorem dX9_readsOrder_60 : decode cX9_readsOrder 60 = .ok (.getfield 33, 3) := by decide +kernel
theorem dX9_readsOrder_63 : decode cX9_readsOrder 63 = .ok (.iconst 1, 1) := by decide +kernel
theorem dX9_readsOrder_64 : decode cX9_readsOrder 64 = .ok (.iconst (-1), 1) := by decide +kernel
theorem dX9_readsOrder_65 : decode cX9_readsOrder 65 = .ok (.iastore, 1) := by decide +kernel
theorem dX9_readsOrder_66 : decode cX9_readsOrder 66 = .ok (.aload_n 0, 1) := by decide +kernel
theorem dX9_readsOrder_67 : decode cX9_readsOrder 67 = .ok (.invokevirtual 239, 3) := by decide +kernel
theorem dX9_readsOrder_70 : decode cX9_readsOrder 70 = .ok (.pop, 1) := by decide +kernel
theorem dX9_readsOrder_71 : decode cX9_readsOrder 71 = .ok (.aload_n 0, 1) := by decide +kernel
theorem dX9_readsOrder_72 : decode cX9_readsOrder 72 = .ok (.aload_n 0, 1) := by decide +kernel
theorem dX9_readsOrder_73 : decode cX9_readsOrder 73 = .ok (.getfield 232, 3) := by decide +kernel
theorem dX9_readsOrder_76 : decode cX9_readsOrder 76 = .ok (.invokevirtual 242, 3) := by decide +kernel
theorem dX9_readsOrder_79 : decode cX9_readsOrder 79 = .ok (.ifCond .eq 13, 3) := by decide +kernel
theorem dX9_readsOrder_82 : decode cX9_readsOrder 82 = .ok (.aload_n 0, 1) := by decide +kernel
theorem dX9_readsOrder_83 : decode cX9_readsOrder 83 = .ok (.iconst 1, 1) := by decide +kernel
theorem dX9_readsOrder_84 : decode cX9_readsOrder 84 = .ok (.invokevirtual 248, 3) := by decide +kernel
theorem dX9_readsOrder_87 : decode cX9_readsOrder 87 = .ok (.ifCond .ne 5, 3) := by decide +kernel
theorem dX9_readsOrder_90 : decode cX9_readsOrder 90 = .ok (.iconst 0, 1) := by decide +kernel
theorem dX9_readsOrder_91 : decode cX9_readsOrder 91 = .ok (.ireturn, 1) := by decide +kernel
theorem dX9_readsOrder_92 : decode cX9_readsOrder 92 = .ok (.aload_n 0, 1) := by decide +kernel
theorem dX9_readsOrder_93 : decode cX9_readsOrder 93 = .ok (.invokevirtual 239, 3) := by decide +kernel
theorem dX9_readsOrder_96 : decode cX9_readsOrder 96 = .ok (.bipush 59, 2) := by decide +kernel
theorem dX9_readsOrder_98 : decode cX9_readsOrder 98 = .ok (.if_icmp .eq 5, 3) := by decide +kernel
theorem dX9_readsOrder_101 : decode cX9_readsOrder 101 = .ok (.iconst 0, 1) := by decide +kernel
theorem dX9_readsOrder_102 : decode cX9_readsOrder 102 = .ok (.ireturn, 1) := by decide +kernel
theorem dX9_readsOrder_103 : decode cX9_readsOrder 103 = .ok (.aload_n 0, 1) := by decide +kernel
theorem dX9_readsOrder_104 : decode cX9_readsOrder 104 = .ok (.dup, 1) := by decide +kernel
theorem dX9_readsOrder_105 : decode cX9_readsOrder 105 = .ok (.getfield 232, 3) := by decide +kernel
theorem dX9_readsOrder_108 : decode cX9_readsOrder 108 = .ok (.iconst 1, 1) := by decide +kernel
theorem dX9_readsOrder_109 : decode cX9_readsOrder 109 = .ok (.iadd, 1) := by decide +kernel
theorem dX9_readsOrder_110 : decode cX9_readsOrder 110 = .ok (.putfield 232, 3) := by decide +kernel
theorem dX9_readsOrder_113 : decode cX9_readsOrder 113 = .ok (.iload_n 1, 1) := by decide +kernel
theorem dX9_readsOrder_114 : decode cX9_readsOrder 114 = .ok (.ifCond .eq 30, 3) := by decide +kernel
theorem dX9_readsOrder_117 : decode cX9_readsOrder 117 = .ok (.aload_n 0, 1) := by decide +kernel
theorem dX9_readsOrder_118 : decode cX9_readsOrder 118 = .ok (.aload_n 0, 1) := by decide +kernel
theorem dX9_readsOrder_119 : decode cX9_readsOrder 119 = .ok (.iload_n 2, 1) := by decide +kernel
theorem dX9_readsOrder_120 : decode cX9_readsOrder 120 = .ok (.invokevirtual 251, 3) := by decide +kernel
theorem dX9_readsOrder_123 : decode cX9_readsOrder 123 = .ok (.putfield 254, 3) := by decide +kernel
theorem dX9_readsOrder_126 : decode cX9_readsOrder 126 = .ok (.aload_n 0, 1) := by decide +kernel
theorem dX9_readsOrder_127 : decode cX9_readsOrder 127 = .ok (.getfield 254, 3) := by decide +kernel
theorem dX9_readsOrder_130 : decode cX9_readsOrder 130 = .ok (.ifCond .ne 11, 3) := by decide +kernel
theorem dX9_readsOrder_133 : decode cX9_readsOrder 133 = .ok (.aload_n 0, 1) := by decide +kernel
theorem dX9_readsOrder_134 : decode cX9_readsOrder 134 = .ok (.iload_n 2, 1) := by decide +kernel
theorem dX9_readsOrder_135 : decode cX9_readsOrder 135 = .ok (.invokevirtual 257, 3) := by decide +kernel
theorem dX9_readsOrder_138 : decode cX9_readsOrder 138 = .ok (.goto 4, 3) := by decide +kernel
theorem dX9_readsOrder_141 : decode cX9_readsOrder 141 = .ok (.iconst 0, 1) := by decide +kernel
theorem dX9_readsOrder_142 : decode cX9_readsOrder 142 = .ok (.istore 4, 2) := by decide +kernel
theorem dX9_readsOrder_144 : decode cX9_readsOrder 144 = .ok (.iconst 1, 1) := by decide +kernel
theorem dX9_readsOrder_145 : decode cX9_readsOrder 145 = .ok (.ireturn, 1) := by decide +kernel
theorem dX9_reads_0 : decode cX9_reads 0 = .ok (.aload_n 0, 1) := by decide +kernel
theorem dX9_reads_1 : decode cX9_reads 1 = .ok (.iconst 0, 1) := by decide +kernel
theorem dX9_reads_2 : decode cX9_reads 2 = .ok (.putfield 232, 3) := by decide +kernel
theorem dX9_reads_5 : decode cX9_reads 5 = .ok (.aload_n 0, 1) := by decide +kernel
theorem dX9_reads_6 : decode cX9_reads 6 = .ok (.iconst 0, 1) := by decide +kernel
theorem dX9_reads_7 : decode cX9_reads 7 = .ok (.invokevirtual 260, 3) := by decide +kernel
theorem dX9_reads_10 : decode cX9_reads 10 = .ok (.istore_n 1, 1) := by decide +kernel
theorem dX9_reads_11 : decode cX9_reads 11 = .ok (.iload_n 1, 1) := by decide +kernel
theorem dX9_reads_12 : decode cX9_reads 12 = .ok (.ifCond .eq 20, 3) := by decide +kernel
theorem dX9_reads_15 : decode cX9_reads 15 = .ok (.aload_n 0, 1) := by decide +kernel
theorem dX9_reads_16 : decode cX9_reads 16 = .ok (.invokevirtual 239, 3) := by decide +kernel
theorem dX9_reads_19 : decode cX9_reads 19 = .ok (.iconst (-1), 1) := by decide +kernel
theorem dX9_reads_20 : decode cX9_reads 20 = .ok (.if_icmp .eq 12, 3) := by decide +kernel
theorem dX9_reads_23 : decode cX9_reads 23 = .ok (.aload_n 0, 1) := by decide +kernel
theorem dX9_reads_24 : decode cX9_reads 24 = .ok (.iconst 0, 1) := by decide +kernel
theorem dX9_reads_25 : decode cX9_reads 25 = .ok (.invokevirtual 260, 3) := by decide +kernel
theorem dX9_reads_28 : decode cX9_reads 28 = .ok (.istore_n 1, 1) := by decide +kernel
theorem dX9_reads_29 : decode cX9_reads 29 = .ok (.goto (-18), 3) := by decide +kernel
theorem dX9_reads_32 : decode cX9_reads 32 = .ok (.iload_n 1, 1) := by decide +kernel
theorem dX9_reads_33 : decode cX9_reads 33 = .ok (.ifCond .ne 11, 3) := by decide +kernel
theorem dX9_reads_36 : decode cX9_reads 36 = .ok (.bipush (-10), 2) := by decide +kernel
theorem dX9_reads_38 : decode cX9_reads 38 = .ok (.aload_n 0, 1) := by decide +kernel
theorem dX9_reads_39 : decode cX9_reads 39 = .ok (.getfield 232, 3) := by decide +kernel
theorem dX9_reads_42 : decode cX9_reads 42 = .ok (.isub, 1) := by decide +kernel
theorem dX9_reads_43 : decode cX9_reads 43 = .ok (.ireturn, 1) := by decide +kernel
theorem dX9_reads_44 : decode cX9_reads 44 = .ok (.aload_n 0, 1) := by decide +kernel
theorem dX9_reads_45 : decode cX9_reads 45 = .ok (.invokevirtual 264, 3) := by decide +kernel
theorem dX9_reads_48 : decode cX9_reads 48 = .ok (.iconst 0, 1) := by decide +kernel
theorem dX9_reads_49 : decode cX9_reads 49 = .ok (.istore_n 2, 1) := by decide +kernel
theorem dX9_reads_50 : decode cX9_reads 50 = .ok (.aload_n 0, 1) := by decide +kernel
theorem dX9_reads_51 : decode cX9_reads 51 = .ok (.iconst 0, 1) := by decide +kernel
theorem dX9_reads_52 : decode cX9_reads 52 = .ok (.putfield 232, 3) := by decide +kernel
theorem dX9_reads_55 : decode cX9_reads 55 = .ok (.aload_n 0, 1) := by decide +kernel
theorem dX9_reads_56 : decode cX9_reads 56 = .ok (.iconst 0, 1) := by decide +kernel
theorem dX9_reads_57 : decode cX9_reads 57 = .ok (.putfield 254, 3) := by decide +kernel
theorem dX9_reads_60 : decode cX9_reads 60 = .ok (.aload_n 0, 1) := by decide +kernel
theorem dX9_reads_61 : decode cX9_reads 61 = .ok (.invokevirtual 239, 3) := by decide +kernel
theorem dX9_reads_64 : decode cX9_reads 64 = .ok (.iconst (-1), 1) := by decide +kernel
theorem dX9_reads_65 : decode cX9_reads 65 = .ok (.if_icmp .eq 45, 3) := by decide +kernel
theorem dX9_reads_68 : decode cX9_reads 68 = .ok (.aload_n 0, 1) := by decide +kernel
theorem dX9_reads_69 : decode cX9_reads 69 = .ok (.iconst 1, 1) := by decide +kernel
theorem dX9_reads_70 : decode cX9_reads 70 = .ok (.invokevirtual 260, 3) := by decide +kernel
theorem dX9_reads_73 : decode cX9_reads 73 = .ok (.istore_n 1, 1) := by decide +kernel
theorem dX9_reads_74 : decode cX9_reads 74 = .ok (.aload_n 0, 1) := by decide +kernel
theorem dX9_reads_75 : decode cX9_reads 75 = .ok (.getfield 254, 3) := by decide +kernel
theorem dX9_reads_78 : decode cX9_reads 78 = .ok (.ifCond .ge 26, 3) := by decide +kernel
theorem dX9_reads_81 : decode cX9_reads 81 = .ok (.aload_n 0, 1) := by decide +kernel
theorem dX9_reads_82 : decode cX9_reads 82 = .ok (.invokevirtual 267, 3) := by decide +kernel
theorem dX9_reads_85 : decode cX9_reads 85 = .ok (.aload_n 0, 1) := by decide +kernel
theorem dX9_reads_86 : decode cX9_reads 86 = .ok (.aload_n 0, 1) := by decide +kernel
theorem dX9_reads_87 : decode cX9_reads 87 = .ok (.getfield 254, 3) := by decide +kernel
theorem dX9_reads_90 : decode cX9_reads 90 = .ok (.putfield 270, 3) := by decide +kernel
theorem dX9_reads_93 : decode cX9_reads 93 = .ok (.aload_n 0, 1) := by decide +kernel
theorem dX9_reads_94 : decode cX9_reads 94 = .ok (.iload_n 2, 1) := by decide +kernel
theorem dX9_reads_95 : decode cX9_reads 95 = .ok (.putfield 36, 3) := by decide +kernel
theorem dX9_reads_98 : decode cX9_reads 98 = .ok (.sipush (-1000), 3) := by decide +kernel
theorem dX9_reads_101 : decode cX9_reads 101 = .ok (.iload_n 2, 1) := by decide +kernel
theorem dX9_reads_102 : decode cX9_reads 102 = .ok (.isub, 1) := by decide +kernel
theorem dX9_reads_103 : decode cX9_reads 103 = .ok (.ireturn, 1) := by decide +kernel
theorem dX9_reads_104 : decode cX9_reads 104 = .ok (.iinc 2 1, 3) := by decide +kernel
theorem dX9_reads_107 : decode cX9_reads 107 = .ok (.goto (-47), 3) := by decide +kernel
theorem dX9_reads_110 : decode cX9_reads 110 = .ok (.aload_n 0, 1) := by decide +kernel
theorem dX9_reads_111 : decode cX9_reads 111 = .ok (.invokevirtual 273, 3) := by decide +kernel
theorem dX9_reads_114 : decode cX9_reads 114 = .ok (.iload_n 2, 1) := by decide +kernel
theorem dX9_reads_115 : decode cX9_reads 115 = .ok (.ireturn, 1) := by decide +kernel
theorem dX9_setsAside_0 : decode cX9_setsAside 0 = .ok (.iconst 0, 1) := by decide +kernel
theorem dX9_setsAside_1 : decode cX9_setsAside 1 = .ok (.istore_n 1, 1) := by decide +kernel
theorem dX9_setsAside_2 : decode cX9_setsAside 2 = .ok (.iload_n 1, 1) := by decide +kernel
theorem dX9_setsAside_3 : decode cX9_setsAside 3 = .ok (.sipush 424, 3) := by decide +kernel
theorem dX9_setsAside_6 : decode cX9_setsAside 6 = .ok (.if_icmp .ge 21, 3) := by decide +kernel
theorem dX9_setsAside_9 : decode cX9_setsAside 9 = .ok (.aload_n 0, 1) := by decide +kernel
theorem dX9_setsAside_10 : decode cX9_setsAside 10 = .ok (.getfield 20, 3) := by decide +kernel
theorem dX9_setsAside_13 : decode cX9_setsAside 13 = .ok (.iload_n 1, 1) := by decide +kernel
theorem dX9_setsAside_14 : decode cX9_setsAside 14 = .ok (.aload_n 0, 1) := by decide +kernel
theorem dX9_setsAside_15 : decode cX9_setsAside 15 = .ok (.getfield 7, 3) := by decide +kernel
theorem dX9_setsAside_18 : decode cX9_setsAside 18 = .ok (.iload_n 1, 1) := by decide +kernel
theorem dX9_setsAside_19 : decode cX9_setsAside 19 = .ok (.iaload, 1) := by decide +kernel
theorem dX9_setsAside_20 : decode cX9_setsAside 20 = .ok (.iastore, 1) := by decide +kernel
theorem dX9_setsAside_21 : decode cX9_setsAside 21 = .ok (.iinc 1 1, 3) := by decide +kernel
theorem dX9_setsAside_24 : decode cX9_setsAside 24 = .ok (.goto (-22), 3) := by decide +kernel
theorem dX9_setsAside_27 : decode cX9_setsAside 27 = .ok (.aload_n 0, 1) := by decide +kernel
theorem dX9_setsAside_28 : decode cX9_setsAside 28 = .ok (.aload_n 0, 1) := by decide +kernel
theorem dX9_setsAside_29 : decode cX9_setsAside 29 = .ok (.getfield 43, 3) := by decide +kernel
theorem dX9_setsAside_32 : decode cX9_setsAside 32 = .ok (.putfield 276, 3) := by decide +kernel
theorem dX9_setsAside_35 : decode cX9_setsAside 35 = .ok (.return_, 1) := by decide +kernel
theorem dX9_takesAside_0 : decode cX9_takesAside 0 = .ok (.iconst 0, 1) := by decide +kernel
theorem dX9_takesAside_1 : decode cX9_takesAside 1 = .ok (.istore_n 1, 1) := by decide +kernel
theorem dX9_takesAside_2 : decode cX9_takesAside 2 = .ok (.iload_n 1, 1) := by decide +kernel
theorem dX9_takesAside_3 : decode cX9_takesAside 3 = .ok (.sipush 424, 3) := by decide +kernel
theorem dX9_takesAside_6 : decode cX9_takesAside 6 = .ok (.if_icmp .ge 21, 3) := by decide +kernel
theorem dX9_takesAside_9 : decode cX9_takesAside 9 = .ok (.aload_n 0, 1) := by decide +kernel
theorem dX9_takesAside_10 : decode cX9_takesAside 10 = .ok (.getfield 7, 3) := by decide +kernel
theorem dX9_takesAside_13 : decode cX9_takesAside 13 = .ok (.iload_n 1, 1) := by decide +kernel
theorem dX9_takesAside_14 : decode cX9_takesAside 14 = .ok (.aload_n 0, 1) := by decide +kernel
theorem dX9_takesAside_15 : decode cX9_takesAside 15 = .ok (.getfield 20, 3) := by decide +kernel
theorem dX9_takesAside_18 : decode cX9_takesAside 18 = .ok (.iload_n 1, 1) := by decide +kernel
theorem dX9_takesAside_19 : decode cX9_takesAside 19 = .ok (.iaload, 1) := by decide +kernel
theorem dX9_takesAside_20 : decode cX9_takesAside 20 = .ok (.iastore, 1) := by decide +kernel
theorem dX9_takesAside_21 : decode cX9_takesAside 21 = .ok (.iinc 1 1, 3) := by decide +kernel
theorem dX9_takesAside_24 : decode cX9_takesAside 24 = .ok (.goto (-22), 3) := by decide +kernel
theorem dX9_takesAside_27 : decode cX9_takesAside 27 = .ok (.aload_n 0, 1) := by decide +kernel
theorem dX9_takesAside_28 : decode cX9_takesAside 28 = .ok (.aload_n 0, 1) := by decide +kernel
theorem dX9_takesAside_29 : decode cX9_takesAside 29 = .ok (.getfield 276, 3) := by decide +kernel
theorem dX9_takesAside_32 : decode cX9_takesAside 32 = .ok (.putfield 43, 3) := by decide +kernel
theorem dX9_takesAside_35 : decode cX9_takesAside 35 = .ok (.return_, 1) := by decide +kernel
theorem dX9_keepsAside_0 : decode cX9_keepsAside 0 = .ok (.iconst 0, 1) := by decide +kernel
theorem dX9_keepsAside_1 : decode cX9_keepsAside 1 = .ok (.istore_n 1, 1) := by decide +kernel
theorem dX9_keepsAside_2 : decode cX9_keepsAside 2 = .ok (.iload_n 1, 1) := by decide +kernel
theorem dX9_keepsAside_3 : decode cX9_keepsAside 3 = .ok (.sipush 424, 3) := by decide +kernel
theorem dX9_keepsAside_6 : decode cX9_keepsAside 6 = .ok (.if_icmp .ge 35, 3) := by decide +kernel
theorem dX9_keepsAside_9 : decode cX9_keepsAside 9 = .ok (.aload_n 0, 1) := by decide +kernel
theorem dX9_keepsAside_10 : decode cX9_keepsAside 10 = .ok (.getfield 7, 3) := by decide +kernel
theorem dX9_keepsAside_13 : decode cX9_keepsAside 13 = .ok (.iload_n 1, 1) := by decide +kernel
theorem dX9_keepsAside_14 : decode cX9_keepsAside 14 = .ok (.iaload, 1) := by decide +kernel
theorem dX9_keepsAside_15 : decode cX9_keepsAside 15 = .ok (.istore_n 2, 1) := by decide +kernel
theorem dX9_keepsAside_16 : decode cX9_keepsAside 16 = .ok (.aload_n 0, 1) := by decide +kernel
theorem dX9_keepsAside_17 : decode cX9_keepsAside 17 = .ok (.getfield 7, 3) := by decide +kernel
theorem dX9_keepsAside_20 : decode cX9_keepsAside 20 = .ok (.iload_n 1, 1) := by decide +kernel
theorem dX9_keepsAside_21 : decode cX9_keepsAside 21 = .ok (.aload_n 0, 1) := by decide +kernel
theorem dX9_keepsAside_22 : decode cX9_keepsAside 22 = .ok (.getfield 20, 3) := by decide +kernel
theorem dX9_keepsAside_25 : decode cX9_keepsAside 25 = .ok (.iload_n 1, 1) := by decide +kernel
theorem dX9_keepsAside_26 : decode cX9_keepsAside 26 = .ok (.iaload, 1) := by decide +kernel
theorem dX9_keepsAside_27 : decode cX9_keepsAside 27 = .ok (.iastore, 1) := by decide +kernel
theorem dX9_keepsAside_28 : decode cX9_keepsAside 28 = .ok (.aload_n 0, 1) := by decide +kernel
theorem dX9_keepsAside_29 : decode cX9_keepsAside 29 = .ok (.getfield 20, 3) := by decide +kernel
theorem dX9_keepsAside_32 : decode cX9_keepsAside 32 = .ok (.iload_n 1, 1) := by decide +kernel
theorem dX9_keepsAside_33 : decode cX9_keepsAside 33 = .ok (.iload_n 2, 1) := by decide +kernel
theorem dX9_keepsAside_34 : decode cX9_keepsAside 34 = .ok (.iastore, 1) := by decide +kernel
theorem dX9_keepsAside_35 : decode cX9_keepsAside 35 = .ok (.iinc 1 1, 3) := by decide +kernel
theorem dX9_keepsAside_38 : decode cX9_keepsAside 38 = .ok (.goto (-36), 3) := by decide +kernel
theorem dX9_keepsAside_41 : decode cX9_keepsAside 41 = .ok (.aload_n 0, 1) := by decide +kernel
theorem dX9_keepsAside_42 : decode cX9_keepsAside 42 = .ok (.getfield 43, 3) := by decide +kernel
theorem dX9_keepsAside_45 : decode cX9_keepsAside 45 = .ok (.fstore_n 1, 1) := by decide +kernel
theorem dX9_keepsAside_46 : decode cX9_keepsAside 46 = .ok (.aload_n 0, 1) := by decide +kernel
theorem dX9_keepsAside_47 : decode cX9_keepsAside 47 = .ok (.aload_n 0, 1) := by decide +kernel
theorem dX9_keepsAside_48 : decode cX9_keepsAside 48 = .ok (.getfield 276, 3) := by decide +kernel
theorem dX9_keepsAside_51 : decode cX9_keepsAside 51 = .ok (.putfield 43, 3) := by decide +kernel
theorem dX9_keepsAside_54 : decode cX9_keepsAside 54 = .ok (.aload_n 0, 1) := by decide +kernel
theorem dX9_keepsAside_55 : decode cX9_keepsAside 55 = .ok (.fload_n 1, 1) := by decide +kernel
theorem dX9_keepsAside_56 : decode cX9_keepsAside 56 = .ok (.putfield 276, 3) := by decide +kernel
theorem dX9_keepsAside_59 : decode cX9_keepsAside 59 = .ok (.aload_n 0, 1) := by decide +kernel
theorem dX9_keepsAside_60 : decode cX9_keepsAside 60 = .ok (.invokevirtual 100, 3) := by decide +kernel
theorem dX9_keepsAside_63 : decode cX9_keepsAside 63 = .ok (.aload_n 0, 1) := by decide +kernel
theorem dX9_keepsAside_64 : decode cX9_keepsAside 64 = .ok (.invokevirtual 267, 3) := by decide +kernel
theorem dX9_keepsAside_67 : decode cX9_keepsAside 67 = .ok (.return_, 1) := by decide +kernel
theorem dX9_why_0 : decode cX9_why 0 = .ok (.iload_n 1, 1) := by decide +kernel
theorem dX9_why_1 : decode cX9_why 1 = .ok (.i2l, 1) := by decide +kernel
theorem dX9_why_2 : decode cX9_why 2 = .ok (.lconst 0, 1) := by decide +kernel
theorem dX9_why_3 : decode cX9_why 3 = .ok (.lconst 1, 1) := by decide +kernel
theorem dX9_why_4 : decode cX9_why 4 = .ok (.invokestatic 47, 3) := by decide +kernel
theorem dX9_why_7 : decode cX9_why 7 = .ok (.ifCond .ne 13, 3) := by decide +kernel
theorem dX9_why_10 : decode cX9_why 10 = .ok (.aload_n 0, 1) := by decide +kernel
theorem dX9_why_11 : decode cX9_why 11 = .ok (.bipush (-2), 2) := by decide +kernel
theorem dX9_why_13 : decode cX9_why 13 = .ok (.invokevirtual 97, 3) := by decide +kernel
theorem dX9_why_16 : decode cX9_why 16 = .ok (.istore_n 2, 1) := by decide +kernel
theorem dX9_why_17 : decode cX9_why 17 = .ok (.bipush (-10), 2) := by decide +kernel
theorem dX9_why_19 : decode cX9_why 19 = .ok (.ireturn, 1) := by decide +kernel
theorem dX9_why_20 : decode cX9_why 20 = .ok (.iload_n 1, 1) := by decide +kernel
theorem dX9_why_21 : decode cX9_why 21 = .ok (.ifCond .ne 10, 3) := by decide +kernel
theorem dX9_why_24 : decode cX9_why 24 = .ok (.aload_n 0, 1) := by decide +kernel
theorem dX9_why_25 : decode cX9_why 25 = .ok (.getfield 270, 3) := by decide +kernel
theorem dX9_why_28 : decode cX9_why 28 = .ok (.goto 7, 3) := by decide +kernel
theorem dX9_why_31 : decode cX9_why 31 = .ok (.aload_n 0, 1) := by decide +kernel
theorem dX9_why_32 : decode cX9_why 32 = .ok (.getfield 36, 3) := by decide +kernel
theorem dX9_why_35 : decode cX9_why 35 = .ok (.ireturn, 1) := by decide +kernel
theorem dX9_back_0 : decode cX9_back 0 = .ok (.aload_n 0, 1) := by decide +kernel
theorem dX9_back_1 : decode cX9_back 1 = .ok (.getfield 40, 3) := by decide +kernel
theorem dX9_back_4 : decode cX9_back 4 = .ok (.ifCond .ne 10, 3) := by decide +kernel
theorem dX9_back_7 : decode cX9_back 7 = .ok (.aload_n 0, 1) := by decide +kernel
theorem dX9_back_8 : decode cX9_back 8 = .ok (.bipush (-3), 2) := by decide +kernel
theorem dX9_back_10 : decode cX9_back 10 = .ok (.invokevirtual 97, 3) := by decide +kernel
theorem dX9_back_13 : decode cX9_back 13 = .ok (.ireturn, 1) := by decide +kernel
theorem dX9_back_14 : decode cX9_back 14 = .ok (.aload_n 0, 1) := by decide +kernel
theorem dX9_back_15 : decode cX9_back 15 = .ok (.dup, 1) := by decide +kernel
theorem dX9_back_16 : decode cX9_back 16 = .ok (.getfield 40, 3) := by decide +kernel
theorem dX9_back_19 : decode cX9_back 19 = .ok (.iconst 1, 1) := by decide +kernel
theorem dX9_back_20 : decode cX9_back 20 = .ok (.isub, 1) := by decide +kernel
theorem dX9_back_21 : decode cX9_back 21 = .ok (.putfield 40, 3) := by decide +kernel
theorem dX9_back_24 : decode cX9_back 24 = .ok (.iconst 0, 1) := by decide +kernel
theorem dX9_back_25 : decode cX9_back 25 = .ok (.istore_n 1, 1) := by decide +kernel
theorem dX9_back_26 : decode cX9_back 26 = .ok (.iload_n 1, 1) := by decide +kernel
theorem dX9_back_27 : decode cX9_back 27 = .ok (.sipush 424, 3) := by decide +kernel
theorem dX9_back_30 : decode cX9_back 30 = .ok (.if_icmp .ge 30, 3) := by decide +kernel
theorem dX9_back_33 : decode cX9_back 33 = .ok (.aload_n 0, 1) := by decide +kernel
theorem dX9_back_34 : decode cX9_back 34 = .ok (.getfield 7, 3) := by decide +kernel
theorem dX9_back_37 : decode cX9_back 37 = .ok (.iload_n 1, 1) := by decide +kernel
theorem dX9_back_38 : decode cX9_back 38 = .ok (.aload_n 0, 1) := by decide +kernel
theorem dX9_back_39 : decode cX9_back 39 = .ok (.getfield 13, 3) := by decide +kernel
theorem dX9_back_42 : decode cX9_back 42 = .ok (.sipush 424, 3) := by decide +kernel
theorem dX9_back_45 : decode cX9_back 45 = .ok (.aload_n 0, 1) := by decide +kernel
theorem dX9_back_46 : decode cX9_back 46 = .ok (.getfield 40, 3) := by decide +kernel
theorem dX9_back_49 : decode cX9_back 49 = .ok (.imul, 1) := by decide +kernel
theorem dX9_back_50 : decode cX9_back 50 = .ok (.iload_n 1, 1) := by decide +kernel
theorem dX9_back_51 : decode cX9_back 51 = .ok (.iadd, 1) := by decide +kernel
theorem dX9_back_52 : decode cX9_back 52 = .ok (.iaload, 1) := by decide +kernel
theorem dX9_back_53 : decode cX9_back 53 = .ok (.iastore, 1) := by decide +kernel
theorem dX9_back_54 : decode cX9_back 54 = .ok (.iinc 1 1, 3) := by decide +kernel
theorem dX9_back_57 : decode cX9_back 57 = .ok (.goto (-31), 3) := by decide +kernel
theorem dX9_back_60 : decode cX9_back 60 = .ok (.aload_n 0, 1) := by decide +kernel
theorem dX9_back_61 : decode cX9_back 61 = .ok (.aload_n 0, 1) := by decide +kernel
theorem dX9_back_62 : decode cX9_back 62 = .ok (.getfield 16, 3) := by decide +kernel
theorem dX9_back_65 : decode cX9_back 65 = .ok (.aload_n 0, 1) := by decide +kernel
theorem dX9_back_66 : decode cX9_back 66 = .ok (.getfield 40, 3) := by decide +kernel
theorem dX9_back_69 : decode cX9_back 69 = .ok (.faload, 1) := by decide +kernel
theorem dX9_back_70 : decode cX9_back 70 = .ok (.putfield 43, 3) := by decide +kernel
theorem dX9_back_73 : decode cX9_back 73 = .ok (.aload_n 0, 1) := by decide +kernel
theorem dX9_back_74 : decode cX9_back 74 = .ok (.getfield 40, 3) := by decide +kernel
theorem dX9_back_77 : decode cX9_back 77 = .ok (.ireturn, 1) := by decide +kernel
theorem dX9_toldOf_0 : decode cX9_toldOf 0 = .ok (.iload_n 1, 1) := by decide +kernel
theorem dX9_toldOf_1 : decode cX9_toldOf 1 = .ok (.lookupswitch 52 #[(3, 35), (4, 40), (10, 47)], 35) := by decide +kernel
theorem dX9_toldOf_36 : decode cX9_toldOf 36 = .ok (.aload_n 0, 1) := by decide +kernel
theorem dX9_toldOf_37 : decode cX9_toldOf 37 = .ok (.getfield 229, 3) := by decide +kernel
theorem dX9_toldOf_40 : decode cX9_toldOf 40 = .ok (.ireturn, 1) := by decide +kernel
theorem dX9_toldOf_41 : decode cX9_toldOf 41 = .ok (.aload_n 0, 1) := by decide +kernel
theorem dX9_toldOf_42 : decode cX9_toldOf 42 = .ok (.getfield 7, 3) := by decide +kernel
theorem dX9_toldOf_45 : decode cX9_toldOf 45 = .ok (.iconst 0, 1) := by decide +kernel
theorem dX9_toldOf_46 : decode cX9_toldOf 46 = .ok (.iaload, 1) := by decide +kernel
theorem dX9_toldOf_47 : decode cX9_toldOf 47 = .ok (.ireturn, 1) := by decide +kernel
theorem dX9_toldOf_48 : decode cX9_toldOf 48 = .ok (.aload_n 0, 1) := by decide +kernel
theorem dX9_toldOf_49 : decode cX9_toldOf 49 = .ok (.getfield 40, 3) := by decide +kernel
theorem dX9_toldOf_52 : decode cX9_toldOf 52 = .ok (.ireturn, 1) := by decide +kernel
theorem dX9_toldOf_53 : decode cX9_toldOf 53 = .ok (.iload_n 1, 1) := by decide +kernel
theorem dX9_toldOf_54 : decode cX9_toldOf 54 = .ok (.iconst 3, 1) := by decide +kernel
theorem dX9_toldOf_55 : decode cX9_toldOf 55 = .ok (.if_icmp .ge 12, 3) := by decide +kernel
theorem dX9_toldOf_58 : decode cX9_toldOf 58 = .ok (.aload_n 0, 1) := by decide +kernel
theorem dX9_toldOf_59 : decode cX9_toldOf 59 = .ok (.getfield 23, 3) := by decide +kernel
theorem dX9_toldOf_62 : decode cX9_toldOf 62 = .ok (.iload_n 1, 1) := by decide +kernel
theorem dX9_toldOf_63 : decode cX9_toldOf 63 = .ok (.iaload, 1) := by decide +kernel
theorem dX9_toldOf_64 : decode cX9_toldOf 64 = .ok (.goto 13, 3) := by decide +kernel
theorem dX9_toldOf_67 : decode cX9_toldOf 67 = .ok (.aload_n 0, 1) := by decide +kernel
theorem dX9_toldOf_68 : decode cX9_toldOf 68 = .ok (.getfield 7, 3) := by decide +kernel
theorem dX9_toldOf_71 : decode cX9_toldOf 71 = .ok (.iconst 1, 1) := by decide +kernel
theorem dX9_toldOf_72 : decode cX9_toldOf 72 = .ok (.iload_n 1, 1) := by decide +kernel
theorem dX9_toldOf_73 : decode cX9_toldOf 73 = .ok (.iadd, 1) := by decide +kernel
theorem dX9_toldOf_74 : decode cX9_toldOf 74 = .ok (.iconst 5, 1) := by decide +kernel
theorem dX9_toldOf_75 : decode cX9_toldOf 75 = .ok (.isub, 1) := by decide +kernel
theorem dX9_toldOf_76 : decode cX9_toldOf 76 = .ok (.iaload, 1) := by decide +kernel
theorem dX9_toldOf_77 : decode cX9_toldOf 77 = .ok (.ireturn, 1) := by decide +kernel
theorem dX9_told_0 : decode cX9_told 0 = .ok (.iload_n 1, 1) := by decide +kernel
theorem dX9_told_1 : decode cX9_told 1 = .ok (.i2l, 1) := by decide +kernel
theorem dX9_told_2 : decode cX9_told 2 = .ok (.lconst 0, 1) := by decide +kernel
theorem dX9_told_3 : decode cX9_told 3 = .ok (.ldc2_w 279, 3) := by decide +kernel
theorem dX9_told_6 : decode cX9_told 6 = .ok (.invokestatic 47, 3) := by decide +kernel
theorem dX9_told_9 : decode cX9_told 9 = .ok (.ifCond .eq 11, 3) := by decide +kernel
theorem dX9_told_12 : decode cX9_told 12 = .ok (.aload_n 0, 1) := by decide +kernel
theorem dX9_told_13 : decode cX9_told 13 = .ok (.iload_n 1, 1) := by decide +kernel
theorem dX9_told_14 : decode cX9_told 14 = .ok (.invokevirtual 281, 3) := by decide +kernel
theorem dX9_told_17 : decode cX9_told 17 = .ok (.goto 9, 3) := by decide +kernel
theorem dX9_told_20 : decode cX9_told 20 = .ok (.aload_n 0, 1) := by decide +kernel
theorem dX9_told_21 : decode cX9_told 21 = .ok (.bipush (-2), 2) := by decide +kernel
theorem dX9_told_23 : decode cX9_told 23 = .ok (.invokevirtual 97, 3) := by decide +kernel
theorem dX9_told_26 : decode cX9_told 26 = .ok (.ireturn, 1) := by decide +kernel
theorem dX9_digest_0 : decode cX9_digest 0 = .ok (.ldc2_w 284, 3) := by decide +kernel
theorem dX9_digest_3 : decode cX9_digest 3 = .ok (.lstore_n 1, 1) := by decide +kernel
theorem dX9_digest_4 : decode cX9_digest 4 = .ok (.iconst 0, 1) := by decide +kernel
theorem dX9_digest_5 : decode cX9_digest 5 = .ok (.istore_n 3, 1) := by decide +kernel
theorem dX9_digest_6 : decode cX9_digest 6 = .ok (.iload_n 3, 1) := by decide +kernel
theorem dX9_digest_7 : decode cX9_digest 7 = .ok (.bipush 11, 2) := by decide +kernel
theorem dX9_digest_9 : decode cX9_digest 9 = .ok (.if_icmp .ge 22, 3) := by decide +kernel
theorem dX9_digest_12 : decode cX9_digest 12 = .ok (.ldc2_w 286, 3) := by decide +kernel
theorem dX9_digest_15 : decode cX9_digest 15 = .ok (.lload_n 1, 1) := by decide +kernel
theorem dX9_digest_16 : decode cX9_digest 16 = .ok (.lmul, 1) := by decide +kernel
theorem dX9_digest_17 : decode cX9_digest 17 = .ok (.aload_n 0, 1) := by decide +kernel
theorem dX9_digest_18 : decode cX9_digest 18 = .ok (.iload_n 3, 1) := by decide +kernel
theorem dX9_digest_19 : decode cX9_digest 19 = .ok (.invokevirtual 281, 3) := by decide +kernel
theorem dX9_digest_22 : decode cX9_digest 22 = .ok (.i2l, 1) := by decide +kernel
theorem dX9_digest_23 : decode cX9_digest 23 = .ok (.ladd, 1) := by decide +kernel
theorem dX9_digest_24 : decode cX9_digest 24 = .ok (.lstore_n 1, 1) := by decide +kernel
theorem dX9_digest_25 : decode cX9_digest 25 = .ok (.iinc 3 1, 3) := by decide +kernel
theorem dX9_digest_28 : decode cX9_digest 28 = .ok (.goto (-22), 3) := by decide +kernel
theorem dX9_digest_31 : decode cX9_digest 31 = .ok (.ldc2_w 286, 3) := by decide +kernel
theorem dX9_digest_34 : decode cX9_digest 34 = .ok (.ldc2_w 286, 3) := by decide +kernel
theorem dX9_digest_37 : decode cX9_digest 37 = .ok (.lload_n 1, 1) := by decide +kernel
theorem dX9_digest_38 : decode cX9_digest 38 = .ok (.lmul, 1) := by decide +kernel
theorem dX9_digest_39 : decode cX9_digest 39 = .ok (.aload_n 0, 1) := by decide +kernel
theorem dX9_digest_40 : decode cX9_digest 40 = .ok (.getfield 270, 3) := by decide +kernel
theorem dX9_digest_43 : decode cX9_digest 43 = .ok (.i2l, 1) := by decide +kernel
theorem dX9_digest_44 : decode cX9_digest 44 = .ok (.ladd, 1) := by decide +kernel
theorem dX9_digest_45 : decode cX9_digest 45 = .ok (.lmul, 1) := by decide +kernel
theorem dX9_digest_46 : decode cX9_digest 46 = .ok (.aload_n 0, 1) := by decide +kernel
theorem dX9_digest_47 : decode cX9_digest 47 = .ok (.getfield 36, 3) := by decide +kernel
theorem dX9_digest_50 : decode cX9_digest 50 = .ok (.i2l, 1) := by decide +kernel
theorem dX9_digest_51 : decode cX9_digest 51 = .ok (.ladd, 1) := by decide +kernel
theorem dX9_digest_52 : decode cX9_digest 52 = .ok (.lstore_n 1, 1) := by decide +kernel
theorem dX9_digest_53 : decode cX9_digest 53 = .ok (.iconst 0, 1) := by decide +kernel
theorem dX9_digest_54 : decode cX9_digest 54 = .ok (.istore_n 3, 1) := by decide +kernel
theorem dX9_digest_55 : decode cX9_digest 55 = .ok (.iload_n 3, 1) := by decide +kernel
theorem dX9_digest_56 : decode cX9_digest 56 = .ok (.aload_n 0, 1) := by decide +kernel
theorem dX9_digest_57 : decode cX9_digest 57 = .ok (.getfield 7, 3) := by decide +kernel
theorem dX9_digest_60 : decode cX9_digest 60 = .ok (.iconst 0, 1) := by decide +kernel
theorem dX9_digest_61 : decode cX9_digest 61 = .ok (.iaload, 1) := by decide +kernel
theorem dX9_digest_62 : decode cX9_digest 62 = .ok (.if_icmp .ge 127, 3) := by decide +kernel
theorem dX9_digest_65 : decode cX9_digest 65 = .ok (.iconst 0, 1) := by decide +kernel
theorem dX9_digest_66 : decode cX9_digest 66 = .ok (.istore 4, 2) := by decide +kernel
theorem dX9_digest_68 : decode cX9_digest 68 = .ok (.iload 4, 2) := by decide +kernel
theorem dX9_digest_70 : decode cX9_digest 70 = .ok (.bipush 6, 2) := by decide +kernel
theorem dX9_digest_72 : decode cX9_digest 72 = .ok (.if_icmp .ge 24, 3) := by decide +kernel
theorem dX9_digest_75 : decode cX9_digest 75 = .ok (.ldc2_w 286, 3) := by decide +kernel
theorem dX9_digest_78 : decode cX9_digest 78 = .ok (.lload_n 1, 1) := by decide +kernel
theorem dX9_digest_79 : decode cX9_digest 79 = .ok (.lmul, 1) := by decide +kernel
theorem dX9_digest_80 : decode cX9_digest 80 = .ok (.aload_n 0, 1) := by decide +kernel
theorem dX9_digest_81 : decode cX9_digest 81 = .ok (.iload_n 3, 1) := by decide +kernel
theorem dX9_digest_82 : decode cX9_digest 82 = .ok (.iload 4, 2) := by decide +kernel
theorem dX9_digest_84 : decode cX9_digest 84 = .ok (.invokevirtual 159, 3) := by decide +kernel
theorem dX9_digest_87 : decode cX9_digest 87 = .ok (.i2l, 1) := by decide +kernel
theorem dX9_digest_88 : decode cX9_digest 88 = .ok (.ladd, 1) := by decide +kernel
theorem dX9_digest_89 : decode cX9_digest 89 = .ok (.lstore_n 1, 1) := by decide +kernel
theorem dX9_digest_90 : decode cX9_digest 90 = .ok (.iinc 4 1, 3) := by decide +kernel
theorem dX9_digest_93 : decode cX9_digest 93 = .ok (.goto (-25), 3) := by decide +kernel
theorem dX9_digest_96 : decode cX9_digest 96 = .ok (.iconst 0, 1) := by decide +kernel
theorem dX9_digest_97 : decode cX9_digest 97 = .ok (.istore 4, 2) := by decide +kernel
theorem dX9_digest_99 : decode cX9_digest 99 = .ok (.iload 4, 2) := by decide +kernel
theorem dX9_digest_101 : decode cX9_digest 101 = .ok (.bipush 8, 2) := by decide +kernel
theorem dX9_digest_103 : decode cX9_digest 103 = .ok (.aload_n 0, 1) := by decide +kernel
theorem dX9_digest_104 : decode cX9_digest 104 = .ok (.iload_n 3, 1) := by decide +kernel
theorem dX9_digest_105 : decode cX9_digest 105 = .ok (.invokevirtual 73, 3) := by decide +kernel
theorem dX9_digest_108 : decode cX9_digest 108 = .ok (.imul, 1) := by decide +kernel
theorem dX9_digest_109 : decode cX9_digest 109 = .ok (.if_icmp .ge 32, 3) := by decide +kernel
theorem dX9_digest_112 : decode cX9_digest 112 = .ok (.ldc2_w 286, 3) := by decide +kernel
theorem dX9_digest_115 : decode cX9_digest 115 = .ok (.lload_n 1, 1) := by decide +kernel
theorem dX9_digest_116 : decode cX9_digest 116 = .ok (.lmul, 1) := by decide +kernel
theorem dX9_digest_117 : decode cX9_digest 117 = .ok (.aload_n 0, 1) := by decide +kernel
theorem dX9_digest_118 : decode cX9_digest 118 = .ok (.iload_n 3, 1) := by decide +kernel
theorem dX9_digest_119 : decode cX9_digest 119 = .ok (.iload 4, 2) := by decide +kernel
theorem dX9_digest_121 : decode cX9_digest 121 = .ok (.bipush 8, 2) := by decide +kernel
theorem dX9_digest_123 : decode cX9_digest 123 = .ok (.idiv, 1) := by decide +kernel
theorem dX9_digest_124 : decode cX9_digest 124 = .ok (.iload 4, 2) := by decide +kernel
theorem dX9_digest_126 : decode cX9_digest 126 = .ok (.bipush 8, 2) := by decide +kernel
theorem dX9_digest_128 : decode cX9_digest 128 = .ok (.irem, 1) := by decide +kernel
theorem dX9_digest_129 : decode cX9_digest 129 = .ok (.invokevirtual 147, 3) := by decide +kernel
theorem dX9_digest_132 : decode cX9_digest 132 = .ok (.i2l, 1) := by decide +kernel
theorem dX9_digest_133 : decode cX9_digest 133 = .ok (.ladd, 1) := by decide +kernel
theorem dX9_digest_134 : decode cX9_digest 134 = .ok (.lstore_n 1, 1) := by decide +kernel
theorem dX9_digest_135 : decode cX9_digest 135 = .ok (.iinc 4 1, 3) := by decide +kernel
theorem dX9_digest_138 : decode cX9_digest 138 = .ok (.goto (-39), 3) := by decide +kernel
theorem dX9_digest_141 : decode cX9_digest 141 = .ok (.iconst 0, 1) := by decide +kernel
theorem dX9_digest_142 : decode cX9_digest 142 = .ok (.istore 4, 2) := by decide +kernel
theorem dX9_digest_144 : decode cX9_digest 144 = .ok (.iload 4, 2) := by decide +kernel
theorem dX9_digest_146 : decode cX9_digest 146 = .ok (.iconst 5, 1) := by decide +kernel
theorem dX9_digest_147 : decode cX9_digest 147 = .ok (.aload_n 0, 1) := by decide +kernel
theorem dX9_digest_148 : decode cX9_digest 148 = .ok (.iload_n 3, 1) := by decide +kernel
theorem dX9_digest_149 : decode cX9_digest 149 = .ok (.invokevirtual 70, 3) := by decide +kernel
theorem dX9_digest_152 : decode cX9_digest 152 = .ok (.imul, 1) := by decide +kernel
theorem dX9_digest_153 : decode cX9_digest 153 = .ok (.if_icmp .ge 30, 3) := by decide +kernel
theorem dX9_digest_156 : decode cX9_digest 156 = .ok (.ldc2_w 286, 3) := by decide +kernel
theorem dX9_digest_159 : decode cX9_digest 159 = .ok (.lload_n 1, 1) := by decide +kernel
theorem dX9_digest_160 : decode cX9_digest 160 = .ok (.lmul, 1) := by decide +kernel
theorem dX9_digest_161 : decode cX9_digest 161 = .ok (.aload_n 0, 1) := by decide +kernel
theorem dX9_digest_162 : decode cX9_digest 162 = .ok (.iload_n 3, 1) := by decide +kernel
theorem dX9_digest_163 : decode cX9_digest 163 = .ok (.iload 4, 2) := by decide +kernel
theorem dX9_digest_165 : decode cX9_digest 165 = .ok (.iconst 5, 1) := by decide +kernel
theorem dX9_digest_166 : decode cX9_digest 166 = .ok (.idiv, 1) := by decide +kernel
theorem dX9_digest_167 : decode cX9_digest 167 = .ok (.iload 4, 2) := by decide +kernel
theorem dX9_digest_169 : decode cX9_digest 169 = .ok (.iconst 5, 1) := by decide +kernel
theorem dX9_digest_170 : decode cX9_digest 170 = .ok (.irem, 1) := by decide +kernel
theorem dX9_digest_171 : decode cX9_digest 171 = .ok (.invokevirtual 199, 3) := by decide +kernel
theorem dX9_digest_174 : decode cX9_digest 174 = .ok (.i2l, 1) := by decide +kernel
theorem dX9_digest_175 : decode cX9_digest 175 = .ok (.ladd, 1) := by decide +kernel
theorem dX9_digest_176 : decode cX9_digest 176 = .ok (.lstore_n 1, 1) := by decide +kernel
theorem dX9_digest_177 : decode cX9_digest 177 = .ok (.iinc 4 1, 3) := by decide +kernel
theorem dX9_digest_180 : decode cX9_digest 180 = .ok (.goto (-36), 3) := by decide +kernel
theorem dX9_digest_183 : decode cX9_digest 183 = .ok (.iinc 3 1, 3) := by decide +kernel
theorem dX9_digest_186 : decode cX9_digest 186 = .ok (.goto (-131), 3) := by decide +kernel
theorem dX9_digest_189 : decode cX9_digest 189 = .ok (.ldc2_w 286, 3) := by decide +kernel
theorem dX9_digest_192 : decode cX9_digest 192 = .ok (.lload_n 1, 1) := by decide +kernel
theorem dX9_digest_193 : decode cX9_digest 193 = .ok (.lmul, 1) := by decide +kernel
theorem dX9_digest_194 : decode cX9_digest 194 = .ok (.aload_n 0, 1) := by decide +kernel
theorem dX9_digest_195 : decode cX9_digest 195 = .ok (.invokevirtual 188, 3) := by decide +kernel
theorem dX9_digest_198 : decode cX9_digest 198 = .ok (.i2l, 1) := by decide +kernel
theorem dX9_digest_199 : decode cX9_digest 199 = .ok (.ladd, 1) := by decide +kernel
theorem dX9_digest_200 : decode cX9_digest 200 = .ok (.lstore_n 1, 1) := by decide +kernel
theorem dX9_digest_201 : decode cX9_digest 201 = .ok (.iconst 0, 1) := by decide +kernel
theorem dX9_digest_202 : decode cX9_digest 202 = .ok (.istore_n 3, 1) := by decide +kernel
theorem dX9_digest_203 : decode cX9_digest 203 = .ok (.iload_n 3, 1) := by decide +kernel
theorem dX9_digest_204 : decode cX9_digest 204 = .ok (.iconst 4, 1) := by decide +kernel
theorem dX9_digest_205 : decode cX9_digest 205 = .ok (.if_icmp .ge 22, 3) := by decide +kernel
theorem dX9_digest_208 : decode cX9_digest 208 = .ok (.ldc2_w 286, 3) := by decide +kernel
theorem dX9_digest_211 : decode cX9_digest 211 = .ok (.lload_n 1, 1) := by decide +kernel
theorem dX9_digest_212 : decode cX9_digest 212 = .ok (.lmul, 1) := by decide +kernel
theorem dX9_digest_213 : decode cX9_digest 213 = .ok (.aload_n 0, 1) := by decide +kernel
theorem dX9_digest_214 : decode cX9_digest 214 = .ok (.iload_n 3, 1) := by decide +kernel
theorem dX9_digest_215 : decode cX9_digest 215 = .ok (.invokevirtual 212, 3) := by decide +kernel
theorem dX9_digest_218 : decode cX9_digest 218 = .ok (.i2l, 1) := by decide +kernel
theorem dX9_digest_219 : decode cX9_digest 219 = .ok (.ladd, 1) := by decide +kernel
theorem dX9_digest_220 : decode cX9_digest 220 = .ok (.lstore_n 1, 1) := by decide +kernel
theorem dX9_digest_221 : decode cX9_digest 221 = .ok (.iinc 3 1, 3) := by decide +kernel
theorem dX9_digest_224 : decode cX9_digest 224 = .ok (.goto (-21), 3) := by decide +kernel
theorem dX9_digest_227 : decode cX9_digest 227 = .ok (.lload_n 1, 1) := by decide +kernel
theorem dX9_digest_228 : decode cX9_digest 228 = .ok (.lreturn, 1) := by decide +kernel
theorem dJxf58ca_isNaN_12338_0 : decode cJxf58ca_isNaN_12338 0 = .ok (.fload_n 0, 1) := by decide +kernel
theorem dJxf58ca_isNaN_12338_1 : decode cJxf58ca_isNaN_12338 1 = .ok (.fload_n 0, 1) := by decide +kernel
theorem dJxf58ca_isNaN_12338_2 : decode cJxf58ca_isNaN_12338 2 = .ok (.fcmp .l, 1) := by decide +kernel
theorem dJxf58ca_isNaN_12338_3 : decode cJxf58ca_isNaN_12338 3 = .ok (.ifCond .eq 7, 3) := by decide +kernel
theorem dJxf58ca_isNaN_12338_6 : decode cJxf58ca_isNaN_12338 6 = .ok (.iconst 1, 1) := by decide +kernel
theorem dJxf58ca_isNaN_12338_7 : decode cJxf58ca_isNaN_12338 7 = .ok (.goto 4, 3) := by decide +kernel
theorem dJxf58ca_isNaN_12338_10 : decode cJxf58ca_isNaN_12338 10 = .ok (.iconst 0, 1) := by decide +kernel
theorem dJxf58ca_isNaN_12338_11 : decode cJxf58ca_isNaN_12338 11 = .ok (.ireturn, 1) := by decide +kernel
theorem dJxf58ca_floatToIntBits_5c35a_0 : decode cJxf58ca_floatToIntBits_5c35a 0 = .ok (.fload_n 0, 1) := by decide +kernel
theorem dJxf58ca_floatToIntBits_5c35a_1 : decode cJxf58ca_floatToIntBits_5c35a 1 = .ok (.invokestatic 59, 3) := by decide +kernel
theorem dJxf58ca_floatToIntBits_5c35a_4 : decode cJxf58ca_floatToIntBits_5c35a 4 = .ok (.ifCond .ne 8, 3) := by decide +kernel
theorem dJxf58ca_floatToIntBits_5c35a_7 : decode cJxf58ca_floatToIntBits_5c35a 7 = .ok (.fload_n 0, 1) := by decide +kernel
theorem dJxf58ca_floatToIntBits_5c35a_8 : decode cJxf58ca_floatToIntBits_5c35a 8 = .ok (.invokestatic 74, 3) := by decide +kernel
theorem dJxf58ca_floatToIntBits_5c35a_11 : decode cJxf58ca_floatToIntBits_5c35a 11 = .ok (.ireturn, 1) := by decide +kernel
theorem dJxf58ca_floatToIntBits_5c35a_12 : decode cJxf58ca_floatToIntBits_5c35a 12 = .ok (.ldc 77, 2) := by decide +kernel
theorem dJxf58ca_floatToIntBits_5c35a_14 : decode cJxf58ca_floatToIntBits_5c35a 14 = .ok (.ireturn, 1) := by decide +kernel
theorem dJ9_max_7cf53_0 : decode cJ9_max_7cf53 0 = .ok (.iload_n 0, 1) := by decide +kernel
theorem dJ9_max_7cf53_1 : decode cJ9_max_7cf53 1 = .ok (.iload_n 1, 1) := by decide +kernel
theorem dJ9_max_7cf53_2 : decode cJ9_max_7cf53 2 = .ok (.if_icmp .lt 7, 3) := by decide +kernel
theorem dJ9_max_7cf53_5 : decode cJ9_max_7cf53 5 = .ok (.iload_n 0, 1) := by decide +kernel
theorem dJ9_max_7cf53_6 : decode cJ9_max_7cf53 6 = .ok (.goto 4, 3) := by decide +kernel
theorem dJ9_max_7cf53_9 : decode cJ9_max_7cf53 9 = .ok (.iload_n 1, 1) := by decide +kernel
theorem dJ9_max_7cf53_10 : decode cJ9_max_7cf53 10 = .ok (.ireturn, 1) := by decide +kernel
theorem dJ9_min_7cf53_0 : decode cJ9_min_7cf53 0 = .ok (.iload_n 0, 1) := by decide +kernel
theorem dJ9_min_7cf53_1 : decode cJ9_min_7cf53 1 = .ok (.iload_n 1, 1) := by decide +kernel
theorem dJ9_min_7cf53_2 : decode cJ9_min_7cf53 2 = .ok (.if_icmp .gt 7, 3) := by decide +kernel
theorem dJ9_min_7cf53_5 : decode cJ9_min_7cf53 5 = .ok (.iload_n 0, 1) := by decide +kernel
theorem dJ9_min_7cf53_6 : decode cJ9_min_7cf53 6 = .ok (.goto 4, 3) := by decide +kernel
theorem dJ9_min_7cf53_9 : decode cJ9_min_7cf53 9 = .ok (.iload_n 1, 1) := by decide +kernel
theorem dJ9_min_7cf53_10 : decode cJ9_min_7cf53 10 = .ok (.ireturn, 1) := by decide +kernel
theorem dL_law_0 : decode cL_law 0 = .ok (.new 7, 3) := by decide +kernel
theorem dL_law_3 : decode cL_law 3 = .ok (.dup, 1) := by decide +kernel
theorem dL_law_4 : decode cL_law 4 = .ok (.invokespecial 9, 3) := by decide +kernel
theorem dL_law_7 : decode cL_law 7 = .ok (.astore_n 1, 1) := by decide +kernel
theorem dL_law_8 : decode cL_law 8 = .ok (.new 10, 3) := by decide +kernel
theorem dL_law_11 : decode cL_law 11 = .ok (.dup, 1) := by decide +kernel
theorem dL_law_12 : decode cL_law 12 = .ok (.invokespecial 12, 3) := by decide +kernel
theorem dL_law_15 : decode cL_law 15 = .ok (.astore_n 2, 1) := by decide +kernel
theorem dL_law_16 : decode cL_law 16 = .ok (.iconst 0, 1) := by decide +kernel
theorem dL_law_17 : decode cL_law 17 = .ok (.istore_n 3, 1) := by decide +kernel
theorem dL_law_18 : decode cL_law 18 = .ok (.iload_n 3, 1) := by decide +kernel
theorem dL_law_19 : decode cL_law 19 = .ok (.aload_n 0, 1) := by decide +kernel
theorem dL_law_20 : decode cL_law 20 = .ok (.arraylength, 1) := by decide +kernel
theorem dL_law_21 : decode cL_law 21 = .ok (.bipush 6, 2) := by decide +kernel
theorem dL_law_23 : decode cL_law 23 = .ok (.isub, 1) := by decide +kernel
theorem dL_law_24 : decode cL_law 24 = .ok (.if_icmp .gt 785, 3) := by decide +kernel
theorem dL_law_27 : decode cL_law 27 = .ok (.aload_n 0, 1) := by decide +kernel
theorem dL_law_28 : decode cL_law 28 = .ok (.iload_n 3, 1) := by decide +kernel
theorem dL_law_29 : decode cL_law 29 = .ok (.iaload, 1) := by decide +kernel
theorem dL_law_30 : decode cL_law 30 = .ok (.bipush 31, 2) := by decide +kernel
theorem dL_law_32 : decode cL_law 32 = .ok (.iand, 1) := by decide +kernel
theorem dL_law_33 : decode cL_law 33 = .ok (.tableswitch 770 0 21 #[103, 116, 179, 242, 275, 318, 351, 374, 387, 430, 473, 526, 569, 592, 625, 648, 671, 684, 697, 720, 733, 756], 103) := by decide +kernel
theorem dL_law_136 : decode cL_law 136 = .ok (.aload_n 1, 1) := by decide +kernel
theorem dL_law_137 : decode cL_law 137 = .ok (.invokevirtual 13, 3) := by decide +kernel
theorem dL_law_140 : decode cL_law 140 = .ok (.aload_n 2, 1) := by decide +kernel
theorem dL_law_141 : decode cL_law 141 = .ok (.invokevirtual 17, 3) := by decide +kernel
theorem dL_law_144 : decode cL_law 144 = .ok (.if_icmp .eq 659, 3) := by decide +kernel
theorem dL_law_147 : decode cL_law 147 = .ok (.iconst 0, 1) := by decide +kernel
theorem dL_law_148 : decode cL_law 148 = .ok (.ireturn, 1) := by decide +kernel
theorem dL_law_149 : decode cL_law 149 = .ok (.aload_n 1, 1) := by decide +kernel
theorem dL_law_150 : decode cL_law 150 = .ok (.aload_n 0, 1) := by decide +kernel
theorem dL_law_151 : decode cL_law 151 = .ok (.iload_n 3, 1) := by decide +kernel
theorem dL_law_152 : decode cL_law 152 = .ok (.iconst 1, 1) := by decide +kernel
theorem dL_law_153 : decode cL_law 153 = .ok (.iadd, 1) := by decide +kernel
theorem dL_law_154 : decode cL_law 154 = .ok (.iaload, 1) := by decide +kernel
theorem dL_law_155 : decode cL_law 155 = .ok (.aload_n 0, 1) := by decide +kernel
theorem dL_law_156 : decode cL_law 156 = .ok (.iload_n 3, 1) := by decide +kernel
theorem dL_law_157 : decode cL_law 157 = .ok (.iconst 2, 1) := by decide +kernel
theorem dL_law_158 : decode cL_law 158 = .ok (.iadd, 1) := by decide +kernel
theorem dL_law_159 : decode cL_law 159 = .ok (.iaload, 1) := by decide +kernel
theorem dL_law_160 : decode cL_law 160 = .ok (.aload_n 0, 1) := by decide +kernel
theorem dL_law_161 : decode cL_law 161 = .ok (.iload_n 3, 1) := by decide +kernel
theorem dL_law_162 : decode cL_law 162 = .ok (.iconst 3, 1) := by decide +kernel
theorem dL_law_163 : decode cL_law 163 = .ok (.iadd, 1) := by decide +kernel
theorem dL_law_164 : decode cL_law 164 = .ok (.iaload, 1) := by decide +kernel
theorem dL_law_165 : decode cL_law 165 = .ok (.aload_n 0, 1) := by decide +kernel
theorem dL_law_166 : decode cL_law 166 = .ok (.iload_n 3, 1) := by decide +kernel
theorem dL_law_167 : decode cL_law 167 = .ok (.iconst 4, 1) := by decide +kernel
theorem dL_law_168 : decode cL_law 168 = .ok (.iadd, 1) := by decide +kernel
theorem dL_law_169 : decode cL_law 169 = .ok (.iaload, 1) := by decide +kernel
theorem dL_law_170 : decode cL_law 170 = .ok (.aload_n 0, 1) := by decide +kernel
theorem dL_law_171 : decode cL_law 171 = .ok (.iload_n 3, 1) := by decide +kernel
theorem dL_law_172 : decode cL_law 172 = .ok (.iconst 5, 1) := by decide +kernel
theorem dL_law_173 : decode cL_law 173 = .ok (.iadd, 1) := by decide +kernel
theorem dL_law_174 : decode cL_law 174 = .ok (.iaload, 1) := by decide +kernel
theorem dL_law_175 : decode cL_law 175 = .ok (.invokevirtual 18, 3) := by decide +kernel
theorem dL_law_178 : decode cL_law 178 = .ok (.aload_n 2, 1) := by decide +kernel
theorem dL_law_179 : decode cL_law 179 = .ok (.aload_n 0, 1) := by decide +kernel
theorem dL_law_180 : decode cL_law 180 = .ok (.iload_n 3, 1) := by decide +kernel
theorem dL_law_181 : decode cL_law 181 = .ok (.iconst 1, 1) := by decide +kernel
theorem dL_law_182 : decode cL_law 182 = .ok (.iadd, 1) := by decide +kernel
theorem dL_law_183 : decode cL_law 183 = .ok (.iaload, 1) := by decide +kernel
theorem dL_law_184 : decode cL_law 184 = .ok (.aload_n 0, 1) := by decide +kernel
theorem dL_law_185 : decode cL_law 185 = .ok (.iload_n 3, 1) := by decide +kernel
theorem dL_law_186 : decode cL_law 186 = .ok (.iconst 2, 1) := by decide +kernel
theorem dL_law_187 : decode cL_law 187 = .ok (.iadd, 1) := by decide +kernel
theorem dL_law_188 : decode cL_law 188 = .ok (.iaload, 1) := by decide +kernel
theorem dL_law_189 : decode cL_law 189 = .ok (.aload_n 0, 1) := by decide +kernel
theorem dL_law_190 : decode cL_law 190 = .ok (.iload_n 3, 1) := by decide +kernel
theorem dL_law_191 : decode cL_law 191 = .ok (.iconst 3, 1) := by decide +kernel
theorem dL_law_192 : decode cL_law 192 = .ok (.iadd, 1) := by decide +kernel
theorem dL_law_193 : decode cL_law 193 = .ok (.iaload, 1) := by decide +kernel
theorem dL_law_194 : decode cL_law 194 = .ok (.aload_n 0, 1) := by decide +kernel
theorem dL_law_195 : decode cL_law 195 = .ok (.iload_n 3, 1) := by decide +kernel
theorem dL_law_196 : decode cL_law 196 = .ok (.iconst 4, 1) := by decide +kernel
theorem dL_law_197 : decode cL_law 197 = .ok (.iadd, 1) := by decide +kernel
theorem dL_law_198 : decode cL_law 198 = .ok (.iaload, 1) := by decide +kernel
theorem dL_law_199 : decode cL_law 199 = .ok (.aload_n 0, 1) := by decide +kernel
theorem dL_law_200 : decode cL_law 200 = .ok (.iload_n 3, 1) := by decide +kernel
theorem dL_law_201 : decode cL_law 201 = .ok (.iconst 5, 1) := by decide +kernel
theorem dL_law_202 : decode cL_law 202 = .ok (.iadd, 1) := by decide +kernel
theorem dL_law_203 : decode cL_law 203 = .ok (.iaload, 1) := by decide +kernel
theorem dL_law_204 : decode cL_law 204 = .ok (.invokevirtual 22, 3) := by decide +kernel
theorem dL_law_207 : decode cL_law 207 = .ok (.if_icmp .eq 596, 3) := by decide +kernel
theorem dL_law_210 : decode cL_law 210 = .ok (.iconst 0, 1) := by decide +kernel
theorem dL_law_211 : decode cL_law 211 = .ok (.ireturn, 1) := by decide +kernel
theorem dL_law_212 : decode cL_law 212 = .ok (.aload_n 1, 1) := by decide +kernel
theorem dL_law_213 : decode cL_law 213 = .ok (.aload_n 0, 1) := by decide +kernel
theorem dL_law_214 : decode cL_law 214 = .ok (.iload_n 3, 1) := by decide +kernel
theorem dL_law_215 : decode cL_law 215 = .ok (.iconst 1, 1) := by decide +kernel
theorem dL_law_216 : decode cL_law 216 = .ok (.iadd, 1) := by decide +kernel
theorem dL_law_217 : decode cL_law 217 = .ok (.iaload, 1) := by decide +kernel
theorem dL_law_218 : decode cL_law 218 = .ok (.aload_n 0, 1) := by decide +kernel
theorem dL_law_219 : decode cL_law 219 = .ok (.iload_n 3, 1) := by decide +kernel
theorem dL_law_220 : decode cL_law 220 = .ok (.iconst 2, 1) := by decide +kernel
theorem dL_law_221 : decode cL_law 221 = .ok (.iadd, 1) := by decide +kernel
theorem dL_law_222 : decode cL_law 222 = .ok (.iaload, 1) := by decide +kernel
theorem dL_law_223 : decode cL_law 223 = .ok (.aload_n 0, 1) := by decide +kernel
theorem dL_law_224 : decode cL_law 224 = .ok (.iload_n 3, 1) := by decide +kernel
theorem dL_law_225 : decode cL_law 225 = .ok (.iconst 3, 1) := by decide +kernel
theorem dL_law_226 : decode cL_law 226 = .ok (.iadd, 1) := by decide +kernel
theorem dL_law_227 : decode cL_law 227 = .ok (.iaload, 1) := by decide +kernel
theorem dL_law_228 : decode cL_law 228 = .ok (.aload_n 0, 1) := by decide +kernel
theorem dL_law_229 : decode cL_law 229 = .ok (.iload_n 3, 1) := by decide +kernel
theorem dL_law_230 : decode cL_law 230 = .ok (.iconst 4, 1) := by decide +kernel
theorem dL_law_231 : decode cL_law 231 = .ok (.iadd, 1) := by decide +kernel
theorem dL_law_232 : decode cL_law 232 = .ok (.iaload, 1) := by decide +kernel
theorem dL_law_233 : decode cL_law 233 = .ok (.aload_n 0, 1) := by decide +kernel
theorem dL_law_234 : decode cL_law 234 = .ok (.iload_n 3, 1) := by decide +kernel
theorem dL_law_235 : decode cL_law 235 = .ok (.iconst 5, 1) := by decide +kernel
theorem dL_law_236 : decode cL_law 236 = .ok (.iadd, 1) := by decide +kernel
theorem dL_law_237 : decode cL_law 237 = .ok (.iaload, 1) := by decide +kernel
theorem dL_law_238 : decode cL_law 238 = .ok (.invokevirtual 23, 3) := by decide +kernel
theorem dL_law_241 : decode cL_law 241 = .ok (.aload_n 2, 1) := by decide +kernel
theorem dL_law_242 : decode cL_law 242 = .ok (.aload_n 0, 1) := by decide +kernel
theorem dL_law_243 : decode cL_law 243 = .ok (.iload_n 3, 1) := by decide +kernel
theorem dL_law_244 : decode cL_law 244 = .ok (.iconst 1, 1) := by decide +kernel
theorem dL_law_245 : decode cL_law 245 = .ok (.iadd, 1) := by decide +kernel
theorem dL_law_246 : decode cL_law 246 = .ok (.iaload, 1) := by decide +kernel
theorem dL_law_247 : decode cL_law 247 = .ok (.aload_n 0, 1) := by decide +kernel
theorem dL_law_248 : decode cL_law 248 = .ok (.iload_n 3, 1) := by decide +kernel
theorem dL_law_249 : decode cL_law 249 = .ok (.iconst 2, 1) := by decide +kernel
theorem dL_law_250 : decode cL_law 250 = .ok (.iadd, 1) := by decide +kernel
theorem dL_law_251 : decode cL_law 251 = .ok (.iaload, 1) := by decide +kernel
theorem dL_law_252 : decode cL_law 252 = .ok (.aload_n 0, 1) := by decide +kernel
theorem dL_law_253 : decode cL_law 253 = .ok (.iload_n 3, 1) := by decide +kernel
theorem dL_law_254 : decode cL_law 254 = .ok (.iconst 3, 1) := by decide +kernel
theorem dL_law_255 : decode cL_law 255 = .ok (.iadd, 1) := by decide +kernel
theorem dL_law_256 : decode cL_law 256 = .ok (.iaload, 1) := by decide +kernel
theorem dL_law_257 : decode cL_law 257 = .ok (.aload_n 0, 1) := by decide +kernel
theorem dL_law_258 : decode cL_law 258 = .ok (.iload_n 3, 1) := by decide +kernel
theorem dL_law_259 : decode cL_law 259 = .ok (.iconst 4, 1) := by decide +kernel
theorem dL_law_260 : decode cL_law 260 = .ok (.iadd, 1) := by decide +kernel
theorem dL_law_261 : decode cL_law 261 = .ok (.iaload, 1) := by decide +kernel
theorem dL_law_262 : decode cL_law 262 = .ok (.aload_n 0, 1) := by decide +kernel
theorem dL_law_263 : decode cL_law 263 = .ok (.iload_n 3, 1) := by decide +kernel
theorem dL_law_264 : decode cL_law 264 = .ok (.iconst 5, 1) := by decide +kernel
theorem dL_law_265 : decode cL_law 265 = .ok (.iadd, 1) := by decide +kernel
theorem dL_law_266 : decode cL_law 266 = .ok (.iaload, 1) := by decide +kernel
theorem dL_law_267 : decode cL_law 267 = .ok (.invokevirtual 26, 3) := by decide +kernel
theorem dL_law_270 : decode cL_law 270 = .ok (.if_icmp .eq 533, 3) := by decide +kernel
theorem dL_law_273 : decode cL_law 273 = .ok (.iconst 0, 1) := by decide +kernel
theorem dL_law_274 : decode cL_law 274 = .ok (.ireturn, 1) := by decide +kernel
theorem dL_law_275 : decode cL_law 275 = .ok (.aload_n 1, 1) := by decide +kernel
theorem dL_law_276 : decode cL_law 276 = .ok (.aload_n 0, 1) := by decide +kernel
theorem dL_law_277 : decode cL_law 277 = .ok (.iload_n 3, 1) := by decide +kernel
theorem dL_law_278 : decode cL_law 278 = .ok (.iconst 1, 1) := by decide +kernel
theorem dL_law_279 : decode cL_law 279 = .ok (.iadd, 1) := by decide +kernel
theorem dL_law_280 : decode cL_law 280 = .ok (.iaload, 1) := by decide +kernel
theorem dL_law_281 : decode cL_law 281 = .ok (.aload_n 0, 1) := by decide +kernel
theorem dL_law_282 : decode cL_law 282 = .ok (.iload_n 3, 1) := by decide +kernel
theorem dL_law_283 : decode cL_law 283 = .ok (.iconst 2, 1) := by decide +kernel
theorem dL_law_284 : decode cL_law 284 = .ok (.iadd, 1) := by decide +kernel
theorem dL_law_285 : decode cL_law 285 = .ok (.iaload, 1) := by decide +kernel
theorem dL_law_286 : decode cL_law 286 = .ok (.invokevirtual 27, 3) := by decide +kernel
theorem dL_law_289 : decode cL_law 289 = .ok (.aload_n 2, 1) := by decide +kernel
theorem dL_law_290 : decode cL_law 290 = .ok (.aload_n 0, 1) := by decide +kernel
theorem dL_law_291 : decode cL_law 291 = .ok (.iload_n 3, 1) := by decide +kernel
theorem dL_law_292 : decode cL_law 292 = .ok (.iconst 1, 1) := by decide +kernel
theorem dL_law_293 : decode cL_law 293 = .ok (.iadd, 1) := by decide +kernel
theorem dL_law_294 : decode cL_law 294 = .ok (.iaload, 1) := by decide +kernel
theorem dL_law_295 : decode cL_law 295 = .ok (.aload_n 0, 1) := by decide +kernel
theorem dL_law_296 : decode cL_law 296 = .ok (.iload_n 3, 1) := by decide +kernel
theorem dL_law_297 : decode cL_law 297 = .ok (.iconst 2, 1) := by decide +kernel
theorem dL_law_298 : decode cL_law 298 = .ok (.iadd, 1) := by decide +kernel
theorem dL_law_299 : decode cL_law 299 = .ok (.iaload, 1) := by decide +kernel
theorem dL_law_300 : decode cL_law 300 = .ok (.invokevirtual 31, 3) := by decide +kernel
theorem dL_law_303 : decode cL_law 303 = .ok (.if_icmp .eq 500, 3) := by decide +kernel
theorem dL_law_306 : decode cL_law 306 = .ok (.iconst 0, 1) := by decide +kernel
theorem dL_law_307 : decode cL_law 307 = .ok (.ireturn, 1) := by decide +kernel
theorem dL_law_308 : decode cL_law 308 = .ok (.aload_n 1, 1) := by decide +kernel
theorem dL_law_309 : decode cL_law 309 = .ok (.aload_n 0, 1) := by decide +kernel
theorem dL_law_310 : decode cL_law 310 = .ok (.iload_n 3, 1) := by decide +kernel
theorem dL_law_311 : decode cL_law 311 = .ok (.iconst 1, 1) := by decide +kernel
theorem dL_law_312 : decode cL_law 312 = .ok (.iadd, 1) := by decide +kernel
theorem dL_law_313 : decode cL_law 313 = .ok (.iaload, 1) := by decide +kernel
theorem dL_law_314 : decode cL_law 314 = .ok (.aload_n 0, 1) := by decide +kernel
theorem dL_law_315 : decode cL_law 315 = .ok (.iload_n 3, 1) := by decide +kernel
theorem dL_law_316 : decode cL_law 316 = .ok (.iconst 2, 1) := by decide +kernel
theorem dL_law_317 : decode cL_law 317 = .ok (.iadd, 1) := by decide +kernel
theorem dL_law_318 : decode cL_law 318 = .ok (.iaload, 1) := by decide +kernel
theorem dL_law_319 : decode cL_law 319 = .ok (.aload_n 0, 1) := by decide +kernel
theorem dL_law_320 : decode cL_law 320 = .ok (.iload_n 3, 1) := by decide +kernel
theorem dL_law_321 : decode cL_law 321 = .ok (.iconst 3, 1) := by decide +kernel
theorem dL_law_322 : decode cL_law 322 = .ok (.iadd, 1) := by decide +kernel
theorem dL_law_323 : decode cL_law 323 = .ok (.iaload, 1) := by decide +kernel
theorem dL_law_324 : decode cL_law 324 = .ok (.invokevirtual 32, 3) := by decide +kernel
theorem dL_law_327 : decode cL_law 327 = .ok (.aload_n 2, 1) := by decide +kernel
theorem dL_law_328 : decode cL_law 328 = .ok (.aload_n 0, 1) := by decide +kernel
theorem dL_law_329 : decode cL_law 329 = .ok (.iload_n 3, 1) := by decide +kernel
theorem dL_law_330 : decode cL_law 330 = .ok (.iconst 1, 1) := by decide +kernel
theorem dL_law_331 : decode cL_law 331 = .ok (.iadd, 1) := by decide +kernel
theorem dL_law_332 : decode cL_law 332 = .ok (.iaload, 1) := by decide +kernel
theorem dL_law_333 : decode cL_law 333 = .ok (.aload_n 0, 1) := by decide +kernel
theorem dL_law_334 : decode cL_law 334 = .ok (.iload_n 3, 1) := by decide +kernel
theorem dL_law_335 : decode cL_law 335 = .ok (.iconst 2, 1) := by decide +kernel
theorem dL_law_336 : decode cL_law 336 = .ok (.iadd, 1) := by decide +kernel
theorem dL_law_337 : decode cL_law 337 = .ok (.iaload, 1) := by decide +kernel
theorem dL_law_338 : decode cL_law 338 = .ok (.aload_n 0, 1) := by decide +kernel
theorem dL_law_339 : decode cL_law 339 = .ok (.iload_n 3, 1) := by decide +kernel
theorem dL_law_340 : decode cL_law 340 = .ok (.iconst 3, 1) := by decide +kernel
theorem dL_law_341 : decode cL_law 341 = .ok (.iadd, 1) := by decide +kernel
theorem dL_law_342 : decode cL_law 342 = .ok (.iaload, 1) := by decide +kernel
theorem dL_law_343 : decode cL_law 343 = .ok (.invokevirtual 36, 3) := by decide +kernel
theorem dL_law_346 : decode cL_law 346 = .ok (.if_icmp .eq 457, 3) := by decide +kernel
theorem dL_law_349 : decode cL_law 349 = .ok (.iconst 0, 1) := by decide +kernel
theorem dL_law_350 : decode cL_law 350 = .ok (.ireturn, 1) := by decide +kernel
theorem dL_law_351 : decode cL_law 351 = .ok (.aload_n 1, 1) := by decide +kernel
theorem dL_law_352 : decode cL_law 352 = .ok (.aload_n 0, 1) := by decide +kernel
theorem dL_law_353 : decode cL_law 353 = .ok (.iload_n 3, 1) := by decide +kernel
theorem dL_law_354 : decode cL_law 354 = .ok (.iconst 1, 1) := by decide +kernel
theorem dL_law_355 : decode cL_law 355 = .ok (.iadd, 1) := by decide +kernel
theorem dL_law_356 : decode cL_law 356 = .ok (.iaload, 1) := by decide +kernel
theorem dL_law_357 : decode cL_law 357 = .ok (.aload_n 0, 1) := by decide +kernel
theorem dL_law_358 : decode cL_law 358 = .ok (.iload_n 3, 1) := by decide +kernel
theorem dL_law_359 : decode cL_law 359 = .ok (.iconst 2, 1) := by decide +kernel
theorem dL_law_360 : decode cL_law 360 = .ok (.iadd, 1) := by decide +kernel
theorem dL_law_361 : decode cL_law 361 = .ok (.iaload, 1) := by decide +kernel
theorem dL_law_362 : decode cL_law 362 = .ok (.invokevirtual 37, 3) := by decide +kernel
theorem dL_law_365 : decode cL_law 365 = .ok (.aload_n 2, 1) := by decide +kernel
theorem dL_law_366 : decode cL_law 366 = .ok (.aload_n 0, 1) := by decide +kernel
theorem dL_law_367 : decode cL_law 367 = .ok (.iload_n 3, 1) := by decide +kernel
theorem dL_law_368 : decode cL_law 368 = .ok (.iconst 1, 1) := by decide +kernel
theorem dL_law_369 : decode cL_law 369 = .ok (.iadd, 1) := by decide +kernel
theorem dL_law_370 : decode cL_law 370 = .ok (.iaload, 1) := by decide +kernel
theorem dL_law_371 : decode cL_law 371 = .ok (.aload_n 0, 1) := by decide +kernel
theorem dL_law_372 : decode cL_law 372 = .ok (.iload_n 3, 1) := by decide +kernel
theorem dL_law_373 : decode cL_law 373 = .ok (.iconst 2, 1) := by decide +kernel
theorem dL_law_374 : decode cL_law 374 = .ok (.iadd, 1) := by decide +kernel
theorem dL_law_375 : decode cL_law 375 = .ok (.iaload, 1) := by decide +kernel
theorem dL_law_376 : decode cL_law 376 = .ok (.invokevirtual 40, 3) := by decide +kernel
theorem dL_law_379 : decode cL_law 379 = .ok (.if_icmp .eq 424, 3) := by decide +kernel
theorem dL_law_382 : decode cL_law 382 = .ok (.iconst 0, 1) := by decide +kernel
theorem dL_law_383 : decode cL_law 383 = .ok (.ireturn, 1) := by decide +kernel
theorem dL_law_384 : decode cL_law 384 = .ok (.aload_n 1, 1) := by decide +kernel
theorem dL_law_385 : decode cL_law 385 = .ok (.aload_n 0, 1) := by decide +kernel
theorem dL_law_386 : decode cL_law 386 = .ok (.iload_n 3, 1) := by decide +kernel
theorem dL_law_387 : decode cL_law 387 = .ok (.iconst 1, 1) := by decide +kernel
theorem dL_law_388 : decode cL_law 388 = .ok (.iadd, 1) := by decide +kernel
theorem dL_law_389 : decode cL_law 389 = .ok (.iaload, 1) := by decide +kernel
theorem dL_law_390 : decode cL_law 390 = .ok (.invokevirtual 41, 3) := by decide +kernel
theorem dL_law_393 : decode cL_law 393 = .ok (.aload_n 2, 1) := by decide +kernel
theorem dL_law_394 : decode cL_law 394 = .ok (.aload_n 0, 1) := by decide +kernel
theorem dL_law_395 : decode cL_law 395 = .ok (.iload_n 3, 1) := by decide +kernel
theorem dL_law_396 : decode cL_law 396 = .ok (.iconst 1, 1) := by decide +kernel
theorem dL_law_397 : decode cL_law 397 = .ok (.iadd, 1) := by decide +kernel
theorem dL_law_398 : decode cL_law 398 = .ok (.iaload, 1) := by decide +kernel
theorem dL_law_399 : decode cL_law 399 = .ok (.invokevirtual 45, 3) := by decide +kernel
theorem dL_law_402 : decode cL_law 402 = .ok (.if_icmp .eq 401, 3) := by decide +kernel
theorem dL_law_405 : decode cL_law 405 = .ok (.iconst 0, 1) := by decide +kernel
theorem dL_law_406 : decode cL_law 406 = .ok (.ireturn, 1) := by decide +kernel
theorem dL_law_407 : decode cL_law 407 = .ok (.aload_n 1, 1) := by decide +kernel
theorem dL_law_408 : decode cL_law 408 = .ok (.invokevirtual 46, 3) := by decide +kernel
theorem dL_law_411 : decode cL_law 411 = .ok (.aload_n 2, 1) := by decide +kernel
theorem dL_law_412 : decode cL_law 412 = .ok (.invokevirtual 49, 3) := by decide +kernel
theorem dL_law_415 : decode cL_law 415 = .ok (.if_icmp .eq 388, 3) := by decide +kernel
theorem dL_law_418 : decode cL_law 418 = .ok (.iconst 0, 1) := by decide +kernel
theorem dL_law_419 : decode cL_law 419 = .ok (.ireturn, 1) := by decide +kernel
theorem dL_law_420 : decode cL_law 420 = .ok (.aload_n 1, 1) := by decide +kernel
theorem dL_law_421 : decode cL_law 421 = .ok (.aload_n 0, 1) := by decide +kernel
theorem dL_law_422 : decode cL_law 422 = .ok (.iload_n 3, 1) := by decide +kernel
theorem dL_law_423 : decode cL_law 423 = .ok (.iconst 1, 1) := by decide +kernel
theorem dL_law_424 : decode cL_law 424 = .ok (.iadd, 1) := by decide +kernel
theorem dL_law_425 : decode cL_law 425 = .ok (.iaload, 1) := by decide +kernel
theorem dL_law_426 : decode cL_law 426 = .ok (.aload_n 0, 1) := by decide +kernel
theorem dL_law_427 : decode cL_law 427 = .ok (.iload_n 3, 1) := by decide +kernel
theorem dL_law_428 : decode cL_law 428 = .ok (.iconst 2, 1) := by decide +kernel
theorem dL_law_429 : decode cL_law 429 = .ok (.iadd, 1) := by decide +kernel
theorem dL_law_430 : decode cL_law 430 = .ok (.iaload, 1) := by decide +kernel
theorem dL_law_431 : decode cL_law 431 = .ok (.aload_n 0, 1) := by decide +kernel
theorem dL_law_432 : decode cL_law 432 = .ok (.iload_n 3, 1) := by decide +kernel
theorem dL_law_433 : decode cL_law 433 = .ok (.iconst 3, 1) := by decide +kernel
theorem dL_law_434 : decode cL_law 434 = .ok (.iadd, 1) := by decide +kernel
theorem dL_law_435 : decode cL_law 435 = .ok (.iaload, 1) := by decide +kernel
theorem dL_law_436 : decode cL_law 436 = .ok (.invokevirtual 50, 3) := by decide +kernel
theorem dL_law_439 : decode cL_law 439 = .ok (.aload_n 2, 1) := by decide +kernel
theorem dL_law_440 : decode cL_law 440 = .ok (.aload_n 0, 1) := by decide +kernel
theorem dL_law_441 : decode cL_law 441 = .ok (.iload_n 3, 1) := by decide +kernel
theorem dL_law_442 : decode cL_law 442 = .ok (.iconst 1, 1) := by decide +kernel
theorem dL_law_443 : decode cL_law 443 = .ok (.iadd, 1) := by decide +kernel
theorem dL_law_444 : decode cL_law 444 = .ok (.iaload, 1) := by decide +kernel
theorem dL_law_445 : decode cL_law 445 = .ok (.aload_n 0, 1) := by decide +kernel
theorem dL_law_446 : decode cL_law 446 = .ok (.iload_n 3, 1) := by decide +kernel
theorem dL_law_447 : decode cL_law 447 = .ok (.iconst 2, 1) := by decide +kernel
theorem dL_law_448 : decode cL_law 448 = .ok (.iadd, 1) := by decide +kernel
theorem dL_law_449 : decode cL_law 449 = .ok (.iaload, 1) := by decide +kernel
theorem dL_law_450 : decode cL_law 450 = .ok (.aload_n 0, 1) := by decide +kernel
theorem dL_law_451 : decode cL_law 451 = .ok (.iload_n 3, 1) := by decide +kernel
theorem dL_law_452 : decode cL_law 452 = .ok (.iconst 3, 1) := by decide +kernel
theorem dL_law_453 : decode cL_law 453 = .ok (.iadd, 1) := by decide +kernel
theorem dL_law_454 : decode cL_law 454 = .ok (.iaload, 1) := by decide +kernel
theorem dL_law_455 : decode cL_law 455 = .ok (.invokevirtual 53, 3) := by decide +kernel
theorem dL_law_458 : decode cL_law 458 = .ok (.if_icmp .eq 345, 3) := by decide +kernel
theorem dL_law_461 : decode cL_law 461 = .ok (.iconst 0, 1) := by decide +kernel
theorem dL_law_462 : decode cL_law 462 = .ok (.ireturn, 1) := by decide +kernel
theorem dL_law_463 : decode cL_law 463 = .ok (.aload_n 1, 1) := by decide +kernel
theorem dL_law_464 : decode cL_law 464 = .ok (.aload_n 0, 1) := by decide +kernel
theorem dL_law_465 : decode cL_law 465 = .ok (.iload_n 3, 1) := by decide +kernel
theorem dL_law_466 : decode cL_law 466 = .ok (.iconst 1, 1) := by decide +kernel
theorem dL_law_467 : decode cL_law 467 = .ok (.iadd, 1) := by decide +kernel
theorem dL_law_468 : decode cL_law 468 = .ok (.iaload, 1) := by decide +kernel
theorem dL_law_469 : decode cL_law 469 = .ok (.aload_n 0, 1) := by decide +kernel
theorem dL_law_470 : decode cL_law 470 = .ok (.iload_n 3, 1) := by decide +kernel
theorem dL_law_471 : decode cL_law 471 = .ok (.iconst 2, 1) := by decide +kernel
theorem dL_law_472 : decode cL_law 472 = .ok (.iadd, 1) := by decide +kernel
theorem dL_law_473 : decode cL_law 473 = .ok (.iaload, 1) := by decide +kernel
theorem dL_law_474 : decode cL_law 474 = .ok (.aload_n 0, 1) := by decide +kernel
theorem dL_law_475 : decode cL_law 475 = .ok (.iload_n 3, 1) := by decide +kernel
theorem dL_law_476 : decode cL_law 476 = .ok (.iconst 3, 1) := by decide +kernel
theorem dL_law_477 : decode cL_law 477 = .ok (.iadd, 1) := by decide +kernel
theorem dL_law_478 : decode cL_law 478 = .ok (.iaload, 1) := by decide +kernel
theorem dL_law_479 : decode cL_law 479 = .ok (.invokevirtual 54, 3) := by decide +kernel
theorem dL_law_482 : decode cL_law 482 = .ok (.aload_n 2, 1) := by decide +kernel
theorem dL_law_483 : decode cL_law 483 = .ok (.aload_n 0, 1) := by decide +kernel
theorem dL_law_484 : decode cL_law 484 = .ok (.iload_n 3, 1) := by decide +kernel
theorem dL_law_485 : decode cL_law 485 = .ok (.iconst 1, 1) := by decide +kernel
theorem dL_law_486 : decode cL_law 486 = .ok (.iadd, 1) := by decide +kernel
theorem dL_law_487 : decode cL_law 487 = .ok (.iaload, 1) := by decide +kernel
theorem dL_law_488 : decode cL_law 488 = .ok (.aload_n 0, 1) := by decide +kernel
theorem dL_law_489 : decode cL_law 489 = .ok (.iload_n 3, 1) := by decide +kernel
theorem dL_law_490 : decode cL_law 490 = .ok (.iconst 2, 1) := by decide +kernel
theorem dL_law_491 : decode cL_law 491 = .ok (.iadd, 1) := by decide +kernel
theorem dL_law_492 : decode cL_law 492 = .ok (.iaload, 1) := by decide +kernel
theorem dL_law_493 : decode cL_law 493 = .ok (.aload_n 0, 1) := by decide +kernel
theorem dL_law_494 : decode cL_law 494 = .ok (.iload_n 3, 1) := by decide +kernel
theorem dL_law_495 : decode cL_law 495 = .ok (.iconst 3, 1) := by decide +kernel
theorem dL_law_496 : decode cL_law 496 = .ok (.iadd, 1) := by decide +kernel
theorem dL_law_497 : decode cL_law 497 = .ok (.iaload, 1) := by decide +kernel
theorem dL_law_498 : decode cL_law 498 = .ok (.invokevirtual 57, 3) := by decide +kernel
theorem dL_law_501 : decode cL_law 501 = .ok (.if_icmp .eq 302, 3) := by decide +kernel
theorem dL_law_504 : decode cL_law 504 = .ok (.iconst 0, 1) := by decide +kernel
theorem dL_law_505 : decode cL_law 505 = .ok (.ireturn, 1) := by decide +kernel
theorem dL_law_506 : decode cL_law 506 = .ok (.aload_n 1, 1) := by decide +kernel
theorem dL_law_507 : decode cL_law 507 = .ok (.aload_n 0, 1) := by decide +kernel
theorem dL_law_508 : decode cL_law 508 = .ok (.iload_n 3, 1) := by decide +kernel
theorem dL_law_509 : decode cL_law 509 = .ok (.iconst 1, 1) := by decide +kernel
theorem dL_law_510 : decode cL_law 510 = .ok (.iadd, 1) := by decide +kernel
theorem dL_law_511 : decode cL_law 511 = .ok (.iaload, 1) := by decide +kernel
theorem dL_law_512 : decode cL_law 512 = .ok (.aload_n 0, 1) := by decide +kernel
theorem dL_law_513 : decode cL_law 513 = .ok (.iload_n 3, 1) := by decide +kernel
theorem dL_law_514 : decode cL_law 514 = .ok (.iconst 2, 1) := by decide +kernel
theorem dL_law_515 : decode cL_law 515 = .ok (.iadd, 1) := by decide +kernel
theorem dL_law_516 : decode cL_law 516 = .ok (.iaload, 1) := by decide +kernel
theorem dL_law_517 : decode cL_law 517 = .ok (.aload_n 0, 1) := by decide +kernel
theorem dL_law_518 : decode cL_law 518 = .ok (.iload_n 3, 1) := by decide +kernel
theorem dL_law_519 : decode cL_law 519 = .ok (.iconst 3, 1) := by decide +kernel
theorem dL_law_520 : decode cL_law 520 = .ok (.iadd, 1) := by decide +kernel
theorem dL_law_521 : decode cL_law 521 = .ok (.iaload, 1) := by decide +kernel
theorem dL_law_522 : decode cL_law 522 = .ok (.aload_n 0, 1) := by decide +kernel
theorem dL_law_523 : decode cL_law 523 = .ok (.iload_n 3, 1) := by decide +kernel
theorem dL_law_524 : decode cL_law 524 = .ok (.iconst 4, 1) := by decide +kernel
theorem dL_law_525 : decode cL_law 525 = .ok (.iadd, 1) := by decide +kernel
theorem dL_law_526 : decode cL_law 526 = .ok (.iaload, 1) := by decide +kernel
theorem dL_law_527 : decode cL_law 527 = .ok (.invokevirtual 58, 3) := by decide +kernel
theorem dL_law_530 : decode cL_law 530 = .ok (.aload_n 2, 1) := by decide +kernel
theorem dL_law_531 : decode cL_law 531 = .ok (.aload_n 0, 1) := by decide +kernel
theorem dL_law_532 : decode cL_law 532 = .ok (.iload_n 3, 1) := by decide +kernel
theorem dL_law_533 : decode cL_law 533 = .ok (.iconst 1, 1) := by decide +kernel
theorem dL_law_534 : decode cL_law 534 = .ok (.iadd, 1) := by decide +kernel
theorem dL_law_535 : decode cL_law 535 = .ok (.iaload, 1) := by decide +kernel
theorem dL_law_536 : decode cL_law 536 = .ok (.aload_n 0, 1) := by decide +kernel
theorem dL_law_537 : decode cL_law 537 = .ok (.iload_n 3, 1) := by decide +kernel
theorem dL_law_538 : decode cL_law 538 = .ok (.iconst 2, 1) := by decide +kernel
theorem dL_law_539 : decode cL_law 539 = .ok (.iadd, 1) := by decide +kernel
theorem dL_law_540 : decode cL_law 540 = .ok (.iaload, 1) := by decide +kernel
theorem dL_law_541 : decode cL_law 541 = .ok (.aload_n 0, 1) := by decide +kernel
theorem dL_law_542 : decode cL_law 542 = .ok (.iload_n 3, 1) := by decide +kernel
theorem dL_law_543 : decode cL_law 543 = .ok (.iconst 3, 1) := by decide +kernel
theorem dL_law_544 : decode cL_law 544 = .ok (.iadd, 1) := by decide +kernel
theorem dL_law_545 : decode cL_law 545 = .ok (.iaload, 1) := by decide +kernel
theorem dL_law_546 : decode cL_law 546 = .ok (.aload_n 0, 1) := by decide +kernel
theorem dL_law_547 : decode cL_law 547 = .ok (.iload_n 3, 1) := by decide +kernel
theorem dL_law_548 : decode cL_law 548 = .ok (.iconst 4, 1) := by decide +kernel
theorem dL_law_549 : decode cL_law 549 = .ok (.iadd, 1) := by decide +kernel
theorem dL_law_550 : decode cL_law 550 = .ok (.iaload, 1) := by decide +kernel
theorem dL_law_551 : decode cL_law 551 = .ok (.invokevirtual 62, 3) := by decide +kernel
theorem dL_law_554 : decode cL_law 554 = .ok (.if_icmp .eq 249, 3) := by decide +kernel
theorem dL_law_557 : decode cL_law 557 = .ok (.iconst 0, 1) := by decide +kernel
theorem dL_law_558 : decode cL_law 558 = .ok (.ireturn, 1) := by decide +kernel
theorem dL_law_559 : decode cL_law 559 = .ok (.aload_n 1, 1) := by decide +kernel
theorem dL_law_560 : decode cL_law 560 = .ok (.aload_n 0, 1) := by decide +kernel
theorem dL_law_561 : decode cL_law 561 = .ok (.iload_n 3, 1) := by decide +kernel
theorem dL_law_562 : decode cL_law 562 = .ok (.iconst 1, 1) := by decide +kernel
theorem dL_law_563 : decode cL_law 563 = .ok (.iadd, 1) := by decide +kernel
theorem dL_law_564 : decode cL_law 564 = .ok (.iaload, 1) := by decide +kernel
theorem dL_law_565 : decode cL_law 565 = .ok (.aload_n 0, 1) := by decide +kernel
theorem dL_law_566 : decode cL_law 566 = .ok (.iload_n 3, 1) := by decide +kernel
theorem dL_law_567 : decode cL_law 567 = .ok (.iconst 2, 1) := by decide +kernel
theorem dL_law_568 : decode cL_law 568 = .ok (.iadd, 1) := by decide +kernel
theorem dL_law_569 : decode cL_law 569 = .ok (.iaload, 1) := by decide +kernel
theorem dL_law_570 : decode cL_law 570 = .ok (.aload_n 0, 1) := by decide +kernel
theorem dL_law_571 : decode cL_law 571 = .ok (.iload_n 3, 1) := by decide +kernel
theorem dL_law_572 : decode cL_law 572 = .ok (.iconst 3, 1) := by decide +kernel
theorem dL_law_573 : decode cL_law 573 = .ok (.iadd, 1) := by decide +kernel
theorem dL_law_574 : decode cL_law 574 = .ok (.iaload, 1) := by decide +kernel
theorem dL_law_575 : decode cL_law 575 = .ok (.invokevirtual 63, 3) := by decide +kernel
theorem dL_law_578 : decode cL_law 578 = .ok (.aload_n 2, 1) := by decide +kernel
theorem dL_law_579 : decode cL_law 579 = .ok (.aload_n 0, 1) := by decide +kernel
theorem dL_law_580 : decode cL_law 580 = .ok (.iload_n 3, 1) := by decide +kernel
theorem dL_law_581 : decode cL_law 581 = .ok (.iconst 1, 1) := by decide +kernel
theorem dL_law_582 : decode cL_law 582 = .ok (.iadd, 1) := by decide +kernel
theorem dL_law_583 : decode cL_law 583 = .ok (.iaload, 1) := by decide +kernel
theorem dL_law_584 : decode cL_law 584 = .ok (.aload_n 0, 1) := by decide +kernel
theorem dL_law_585 : decode cL_law 585 = .ok (.iload_n 3, 1) := by decide +kernel
theorem dL_law_586 : decode cL_law 586 = .ok (.iconst 2, 1) := by decide +kernel
theorem dL_law_587 : decode cL_law 587 = .ok (.iadd, 1) := by decide +kernel
theorem dL_law_588 : decode cL_law 588 = .ok (.iaload, 1) := by decide +kernel
theorem dL_law_589 : decode cL_law 589 = .ok (.aload_n 0, 1) := by decide +kernel
theorem dL_law_590 : decode cL_law 590 = .ok (.iload_n 3, 1) := by decide +kernel
theorem dL_law_591 : decode cL_law 591 = .ok (.iconst 3, 1) := by decide +kernel
theorem dL_law_592 : decode cL_law 592 = .ok (.iadd, 1) := by decide +kernel
theorem dL_law_593 : decode cL_law 593 = .ok (.iaload, 1) := by decide +kernel
theorem dL_law_594 : decode cL_law 594 = .ok (.invokevirtual 66, 3) := by decide +kernel
theorem dL_law_597 : decode cL_law 597 = .ok (.if_icmp .eq 206, 3) := by decide +kernel
theorem dL_law_600 : decode cL_law 600 = .ok (.iconst 0, 1) := by decide +kernel
theorem dL_law_601 : decode cL_law 601 = .ok (.ireturn, 1) := by decide +kernel
theorem dL_law_602 : decode cL_law 602 = .ok (.aload_n 1, 1) := by decide +kernel
theorem dL_law_603 : decode cL_law 603 = .ok (.aload_n 0, 1) := by decide +kernel
theorem dL_law_604 : decode cL_law 604 = .ok (.iload_n 3, 1) := by decide +kernel
theorem dL_law_605 : decode cL_law 605 = .ok (.iconst 1, 1) := by decide +kernel
theorem dL_law_606 : decode cL_law 606 = .ok (.iadd, 1) := by decide +kernel
theorem dL_law_607 : decode cL_law 607 = .ok (.iaload, 1) := by decide +kernel
theorem dL_law_608 : decode cL_law 608 = .ok (.invokevirtual 67, 3) := by decide +kernel
theorem dL_law_611 : decode cL_law 611 = .ok (.aload_n 2, 1) := by decide +kernel
theorem dL_law_612 : decode cL_law 612 = .ok (.aload_n 0, 1) := by decide +kernel
theorem dL_law_613 : decode cL_law 613 = .ok (.iload_n 3, 1) := by decide +kernel
theorem dL_law_614 : decode cL_law 614 = .ok (.iconst 1, 1) := by decide +kernel
theorem dL_law_615 : decode cL_law 615 = .ok (.iadd, 1) := by decide +kernel
theorem dL_law_616 : decode cL_law 616 = .ok (.iaload, 1) := by decide +kernel
theorem dL_law_617 : decode cL_law 617 = .ok (.invokevirtual 70, 3) := by decide +kernel
theorem dL_law_620 : decode cL_law 620 = .ok (.if_icmp .eq 183, 3) := by decide +kernel
theorem dL_law_623 : decode cL_law 623 = .ok (.iconst 0, 1) := by decide +kernel
theorem dL_law_624 : decode cL_law 624 = .ok (.ireturn, 1) := by decide +kernel
theorem dL_law_625 : decode cL_law 625 = .ok (.aload_n 1, 1) := by decide +kernel
theorem dL_law_626 : decode cL_law 626 = .ok (.aload_n 0, 1) := by decide +kernel
theorem dL_law_627 : decode cL_law 627 = .ok (.iload_n 3, 1) := by decide +kernel
theorem dL_law_628 : decode cL_law 628 = .ok (.iconst 1, 1) := by decide +kernel
theorem dL_law_629 : decode cL_law 629 = .ok (.iadd, 1) := by decide +kernel
theorem dL_law_630 : decode cL_law 630 = .ok (.iaload, 1) := by decide +kernel
theorem dL_law_631 : decode cL_law 631 = .ok (.aload_n 0, 1) := by decide +kernel
theorem dL_law_632 : decode cL_law 632 = .ok (.iload_n 3, 1) := by decide +kernel
theorem dL_law_633 : decode cL_law 633 = .ok (.iconst 2, 1) := by decide +kernel
theorem dL_law_634 : decode cL_law 634 = .ok (.iadd, 1) := by decide +kernel
theorem dL_law_635 : decode cL_law 635 = .ok (.iaload, 1) := by decide +kernel
theorem dL_law_636 : decode cL_law 636 = .ok (.invokevirtual 71, 3) := by decide +kernel
theorem dL_law_639 : decode cL_law 639 = .ok (.aload_n 2, 1) := by decide +kernel
theorem dL_law_640 : decode cL_law 640 = .ok (.aload_n 0, 1) := by decide +kernel
theorem dL_law_641 : decode cL_law 641 = .ok (.iload_n 3, 1) := by decide +kernel
theorem dL_law_642 : decode cL_law 642 = .ok (.iconst 1, 1) := by decide +kernel
theorem dL_law_643 : decode cL_law 643 = .ok (.iadd, 1) := by decide +kernel
theorem dL_law_644 : decode cL_law 644 = .ok (.iaload, 1) := by decide +kernel
theorem dL_law_645 : decode cL_law 645 = .ok (.aload_n 0, 1) := by decide +kernel
theorem dL_law_646 : decode cL_law 646 = .ok (.iload_n 3, 1) := by decide +kernel
theorem dL_law_647 : decode cL_law 647 = .ok (.iconst 2, 1) := by decide +kernel
theorem dL_law_648 : decode cL_law 648 = .ok (.iadd, 1) := by decide +kernel
theorem dL_law_649 : decode cL_law 649 = .ok (.iaload, 1) := by decide +kernel
theorem dL_law_650 : decode cL_law 650 = .ok (.invokevirtual 74, 3) := by decide +kernel
theorem dL_law_653 : decode cL_law 653 = .ok (.if_icmp .eq 150, 3) := by decide +kernel
theorem dL_law_656 : decode cL_law 656 = .ok (.iconst 0, 1) := by decide +kernel
theorem dL_law_657 : decode cL_law 657 = .ok (.ireturn, 1) := by decide +kernel
theorem dL_law_658 : decode cL_law 658 = .ok (.aload_n 1, 1) := by decide +kernel
theorem dL_law_659 : decode cL_law 659 = .ok (.aload_n 0, 1) := by decide +kernel
theorem dL_law_660 : decode cL_law 660 = .ok (.iload_n 3, 1) := by decide +kernel
theorem dL_law_661 : decode cL_law 661 = .ok (.iconst 1, 1) := by decide +kernel
theorem dL_law_662 : decode cL_law 662 = .ok (.iadd, 1) := by decide +kernel
theorem dL_law_663 : decode cL_law 663 = .ok (.iaload, 1) := by decide +kernel
theorem dL_law_664 : decode cL_law 664 = .ok (.invokevirtual 75, 3) := by decide +kernel
theorem dL_law_667 : decode cL_law 667 = .ok (.aload_n 2, 1) := by decide +kernel
theorem dL_law_668 : decode cL_law 668 = .ok (.aload_n 0, 1) := by decide +kernel
theorem dL_law_669 : decode cL_law 669 = .ok (.iload_n 3, 1) := by decide +kernel
theorem dL_law_670 : decode cL_law 670 = .ok (.iconst 1, 1) := by decide +kernel
theorem dL_law_671 : decode cL_law 671 = .ok (.iadd, 1) := by decide +kernel
theorem dL_law_672 : decode cL_law 672 = .ok (.iaload, 1) := by decide +kernel
theorem dL_law_673 : decode cL_law 673 = .ok (.invokevirtual 78, 3) := by decide +kernel
theorem dL_law_676 : decode cL_law 676 = .ok (.if_icmp .eq 127, 3) := by decide +kernel
theorem dL_law_679 : decode cL_law 679 = .ok (.iconst 0, 1) := by decide +kernel
theorem dL_law_680 : decode cL_law 680 = .ok (.ireturn, 1) := by decide +kernel
theorem dL_law_681 : decode cL_law 681 = .ok (.aload_n 1, 1) := by decide +kernel
theorem dL_law_682 : decode cL_law 682 = .ok (.aload_n 0, 1) := by decide +kernel
theorem dL_law_683 : decode cL_law 683 = .ok (.iload_n 3, 1) := by decide +kernel
theorem dL_law_684 : decode cL_law 684 = .ok (.iconst 1, 1) := by decide +kernel
theorem dL_law_685 : decode cL_law 685 = .ok (.iadd, 1) := by decide +kernel
theorem dL_law_686 : decode cL_law 686 = .ok (.iaload, 1) := by decide +kernel
theorem dL_law_687 : decode cL_law 687 = .ok (.invokevirtual 79, 3) := by decide +kernel
theorem dL_law_690 : decode cL_law 690 = .ok (.aload_n 2, 1) := by decide +kernel
theorem dL_law_691 : decode cL_law 691 = .ok (.aload_n 0, 1) := by decide +kernel
theorem dL_law_692 : decode cL_law 692 = .ok (.iload_n 3, 1) := by decide +kernel
theorem dL_law_693 : decode cL_law 693 = .ok (.iconst 1, 1) := by decide +kernel
theorem dL_law_694 : decode cL_law 694 = .ok (.iadd, 1) := by decide +kernel
theorem dL_law_695 : decode cL_law 695 = .ok (.iaload, 1) := by decide +kernel
theorem dL_law_696 : decode cL_law 696 = .ok (.invokevirtual 82, 3) := by decide +kernel
theorem dL_law_699 : decode cL_law 699 = .ok (.if_icmp .eq 104, 3) := by decide +kernel
theorem dL_law_702 : decode cL_law 702 = .ok (.iconst 0, 1) := by decide +kernel
theorem dL_law_703 : decode cL_law 703 = .ok (.ireturn, 1) := by decide +kernel
theorem dL_law_704 : decode cL_law 704 = .ok (.aload_n 1, 1) := by decide +kernel
theorem dL_law_705 : decode cL_law 705 = .ok (.invokevirtual 83, 3) := by decide +kernel
theorem dL_law_708 : decode cL_law 708 = .ok (.aload_n 2, 1) := by decide +kernel
theorem dL_law_709 : decode cL_law 709 = .ok (.invokevirtual 86, 3) := by decide +kernel
theorem dL_law_712 : decode cL_law 712 = .ok (.if_icmp .eq 91, 3) := by decide +kernel
theorem dL_law_715 : decode cL_law 715 = .ok (.iconst 0, 1) := by decide +kernel
theorem dL_law_716 : decode cL_law 716 = .ok (.ireturn, 1) := by decide +kernel
theorem dL_law_717 : decode cL_law 717 = .ok (.aload_n 1, 1) := by decide +kernel
theorem dL_law_718 : decode cL_law 718 = .ok (.invokevirtual 87, 3) := by decide +kernel
theorem dL_law_721 : decode cL_law 721 = .ok (.aload_n 2, 1) := by decide +kernel
theorem dL_law_722 : decode cL_law 722 = .ok (.invokevirtual 90, 3) := by decide +kernel
theorem dL_law_725 : decode cL_law 725 = .ok (.if_icmp .eq 78, 3) := by decide +kernel
theorem dL_law_728 : decode cL_law 728 = .ok (.iconst 0, 1) := by decide +kernel
theorem dL_law_729 : decode cL_law 729 = .ok (.ireturn, 1) := by decide +kernel
theorem dL_law_730 : decode cL_law 730 = .ok (.aload_n 1, 1) := by decide +kernel
theorem dL_law_731 : decode cL_law 731 = .ok (.aload_n 0, 1) := by decide +kernel
theorem dL_law_732 : decode cL_law 732 = .ok (.iload_n 3, 1) := by decide +kernel
theorem dL_law_733 : decode cL_law 733 = .ok (.iconst 1, 1) := by decide +kernel
theorem dL_law_734 : decode cL_law 734 = .ok (.iadd, 1) := by decide +kernel
theorem dL_law_735 : decode cL_law 735 = .ok (.iaload, 1) := by decide +kernel
theorem dL_law_736 : decode cL_law 736 = .ok (.invokevirtual 91, 3) := by decide +kernel
theorem dL_law_739 : decode cL_law 739 = .ok (.aload_n 2, 1) := by decide +kernel
theorem dL_law_740 : decode cL_law 740 = .ok (.aload_n 0, 1) := by decide +kernel
theorem dL_law_741 : decode cL_law 741 = .ok (.iload_n 3, 1) := by decide +kernel
theorem dL_law_742 : decode cL_law 742 = .ok (.iconst 1, 1) := by decide +kernel
theorem dL_law_743 : decode cL_law 743 = .ok (.iadd, 1) := by decide +kernel
theorem dL_law_744 : decode cL_law 744 = .ok (.iaload, 1) := by decide +kernel
theorem dL_law_745 : decode cL_law 745 = .ok (.invokevirtual 94, 3) := by decide +kernel
theorem dL_law_748 : decode cL_law 748 = .ok (.if_icmp .eq 55, 3) := by decide +kernel
theorem dL_law_751 : decode cL_law 751 = .ok (.iconst 0, 1) := by decide +kernel
theorem dL_law_752 : decode cL_law 752 = .ok (.ireturn, 1) := by decide +kernel
theorem dL_law_753 : decode cL_law 753 = .ok (.aload_n 1, 1) := by decide +kernel
theorem dL_law_754 : decode cL_law 754 = .ok (.invokevirtual 95, 3) := by decide +kernel
theorem dL_law_757 : decode cL_law 757 = .ok (.aload_n 2, 1) := by decide +kernel
theorem dL_law_758 : decode cL_law 758 = .ok (.invokevirtual 98, 3) := by decide +kernel
theorem dL_law_761 : decode cL_law 761 = .ok (.if_icmp .eq 42, 3) := by decide +kernel
theorem dL_law_764 : decode cL_law 764 = .ok (.iconst 0, 1) := by decide +kernel
theorem dL_law_765 : decode cL_law 765 = .ok (.ireturn, 1) := by decide +kernel
theorem dL_law_766 : decode cL_law 766 = .ok (.aload_n 1, 1) := by decide +kernel
theorem dL_law_767 : decode cL_law 767 = .ok (.aload_n 0, 1) := by decide +kernel
theorem dL_law_768 : decode cL_law 768 = .ok (.iload_n 3, 1) := by decide +kernel
theorem dL_law_769 : decode cL_law 769 = .ok (.iconst 1, 1) := by decide +kernel
theorem dL_law_770 : decode cL_law 770 = .ok (.iadd, 1) := by decide +kernel
theorem dL_law_771 : decode cL_law 771 = .ok (.iaload, 1) := by decide +kernel
theorem dL_law_772 : decode cL_law 772 = .ok (.invokevirtual 99, 3) := by decide +kernel
theorem dL_law_775 : decode cL_law 775 = .ok (.aload_n 2, 1) := by decide +kernel
theorem dL_law_776 : decode cL_law 776 = .ok (.aload_n 0, 1) := by decide +kernel
theorem dL_law_777 : decode cL_law 777 = .ok (.iload_n 3, 1) := by decide +kernel
theorem dL_law_778 : decode cL_law 778 = .ok (.iconst 1, 1) := by decide +kernel
theorem dL_law_779 : decode cL_law 779 = .ok (.iadd, 1) := by decide +kernel
theorem dL_law_780 : decode cL_law 780 = .ok (.iaload, 1) := by decide +kernel
theorem dL_law_781 : decode cL_law 781 = .ok (.invokevirtual 102, 3) := by decide +kernel
theorem dL_law_784 : decode cL_law 784 = .ok (.if_icmp .eq 19, 3) := by decide +kernel
theorem dL_law_787 : decode cL_law 787 = .ok (.iconst 0, 1) := by decide +kernel
theorem dL_law_788 : decode cL_law 788 = .ok (.ireturn, 1) := by decide +kernel
theorem dL_law_789 : decode cL_law 789 = .ok (.aload_n 1, 1) := by decide +kernel
theorem dL_law_790 : decode cL_law 790 = .ok (.invokevirtual 103, 3) := by decide +kernel
theorem dL_law_793 : decode cL_law 793 = .ok (.aload_n 2, 1) := by decide +kernel
theorem dL_law_794 : decode cL_law 794 = .ok (.invokevirtual 107, 3) := by decide +kernel
theorem dL_law_797 : decode cL_law 797 = .ok (.lcmp, 1) := by decide +kernel
theorem dL_law_798 : decode cL_law 798 = .ok (.ifCond .eq 5, 3) := by decide +kernel
theorem dL_law_801 : decode cL_law 801 = .ok (.iconst 0, 1) := by decide +kernel
theorem dL_law_802 : decode cL_law 802 = .ok (.ireturn, 1) := by decide +kernel
theorem dL_law_803 : decode cL_law 803 = .ok (.iinc 3 6, 3) := by decide +kernel
theorem dL_law_806 : decode cL_law 806 = .ok (.goto (-788), 3) := by decide +kernel
theorem dL_law_809 : decode cL_law 809 = .ok (.iconst 1, 1) := by decide +kernel
theorem dL_law_810 : decode cL_law 810 = .ok (.ireturn, 1) := by decide +kernel
end
section
/-! ===== a pure memory: ints, references (0: null, 1: the script, n + 2: the n-th cell made), longs, floats, the next number; the script's ints stand in row 1, its length at (1, 0) of the references ===== -/
abbrev zM : Type := (Nat → Nat → Int32) × (Nat → Nat → Nat) × (Nat → Nat → Int64) × (Nat → Nat → UInt32) × Nat
def zI (m : zM) (a k : Nat) : Int32 := m.1 a k
def zR (m : zM) (a k : Nat) : Nat := m.2.1 a k
def zL (m : zM) (a k : Nat) : Int64 := m.2.2.1 a k
def zF (m : zM) (a k : Nat) : UInt32 := m.2.2.2.1 a k
def zn (m : zM) : Nat := m.2.2.2.2
def zu {α : Type} (f : Nat → Nat → α) (a k : Nat) (v : α) : Nat → Nat → α := fun x j => if x = a ∧ j = k then v else f x j
def zc {α : Type} (f : Nat → Nat → α) (a : Nat) (v : α) : Nat → Nat → α := fun x j => if x = a then v else f x j
def zsI (m : zM) (a k : Nat) (v : Int32) : zM := (zu m.1 a k v, m.2)
def zsR (m : zM) (a k : Nat) (v : Nat) : zM := (m.1, zu m.2.1 a k v, m.2.2)
def zsL (m : zM) (a k : Nat) (v : Int64) : zM := (m.1, m.2.1, zu m.2.2.1 a k v, m.2.2.2)
def zsF (m : zM) (a k : Nat) (v : UInt32) : zM := (m.1, m.2.1, m.2.2.1, zu m.2.2.2.1 a k v, m.2.2.2.2)
def znw (m : zM) : zM := (zc m.1 (zn m) 0, zc m.2.1 (zn m) 0, zc m.2.2.1 (zn m) 0, zc m.2.2.2.1 (zn m) 0, zn m + 1)
/-- what lies at a number: (a kind, a length). 0 to 9: the objects of vwCl; 10 byte, 11 float, 12 int, 13 long, 14 boolean, 15 Entry, 16 Host, 17 Link, 18 NameRecord arrays -/
def zLk (o : Nat) : Nat × Nat :=
  if o = 0 then (5, 0) else if o = 1 then (16, 6) else if o = 92 then (1, 0) else if o = 93 then (13, 4)
  else if (o - 2) % 15 = 0 then (4, 0) else if (o - 2) % 15 = 1 then (18, 5) else if (o - 2) % 15 < 7 then (6, 0) else if (o - 2) % 15 = 7 then (0, 0) else if (o - 2) % 15 = 8 then (15, 6) else (2, 0)
def zLm (o : Nat) : Nat × Nat :=
  if o = 0 then (7, 0) else if o = 1 then (10, 120) else if o = 2 then (12, 60) else if o = 3 then (12, 300) else if o = 4 then (9, 0) else if o = 5 then (12, 424) else if o = 6 then (12, 2120)
  else if o = 7 then (11, 5) else if o = 8 then (12, 424) else if o = 9 then (12, 3) else if o = 10 then (14, 256) else if o = 11 then (12, 120) else if o = 12 then (12, 5) else (99, 0)
def zLay (a : Nat) : Nat × Nat :=
  if a < 2 then (99, 0) else if a = 2 then (8, 0) else if a < 97 then zLk (a - 3) else if a = 97 then (3, 0) else if a = 98 then (17, 6) else if a < 663 then zLk ((a - 99) % 94) else zLm (a - 663)
/-- the type of a kind's place: 0 int and its like, 1 a reference, 2 long, 3 float -/
def zft (kd k : Nat) : Nat :=
  if kd = 0 then (if k = 0 then 1 else 0) else if kd = 1 then 1 else if kd = 2 then 0 else if kd = 3 then (if k = 0 then 1 else 0) else if kd = 4 then (if k < 2 then 1 else 0)
  else if kd = 5 then (if k < 2 then 1 else if k = 9 then 3 else 0) else if kd = 6 then 0 else if kd = 7 then (if k = 0 ∨ k = 2 ∨ k = 3 then 1 else 0) else if kd = 8 then (if k < 3 then 1 else 0)
  else if kd = 9 then (if k = 0 ∨ k = 2 ∨ k = 3 ∨ k = 4 ∨ k = 7 ∨ k = 8 ∨ k = 9 ∨ k = 12 then 1 else if k = 1 ∨ k = 5 then 3 else 0)
  else if kd = 11 then 3 else if kd = 13 then 2 else if 15 ≤ kd then 1 else 0
/-- a launch's own numbers: the script's cell, the first new cell, the classes' numbers, the array classes' -/
abbrev zE : Type := Nat × Nat × va_G × (Nat → ClassId)
def zad (E : zE) (r : Nat) : Nat := if r = 1 then E.1 else E.2.1 + (r - 2)
def ztr (E : zE) (v : Value) : Value := match v with
  | .ref r => .ref (zad E r)
  | v => v
def zrf (E : zE) (r : Nat) : Value := if r = 0 then .null else .ref (zad E r)
def zvt (E : zE) (m : zM) (a k t : Nat) : Value := if t = 0 then .int (zI m a k) else if t = 1 then zrf E (zR m a k) else if t = 2 then .long (zL m a k) else .float (zF m a k)
def zvl (E : zE) (m : zM) (a k : Nat) : Value := zvt E m a k (zft (zLay a).1 k)
def zcl (kd : Nat) : vw_C := vwCl.getD kd (RX0, TX0, 0)
def zAt (E : zE) (m : zM) (a : Nat) (H : Heap) : Prop :=
  if (zLay a).1 < 10 then t_OB (zad E a) (E.2.2.1.1 (zLay a).1) (zcl (zLay a).1).2.2 (E.2.2.1.2 (zLay a).1) H (zvl E m a)
  else H[zad E a]? = some (arrV (E.2.2.2 (zLay a).1) (zLay a).2 (zvl E m a))
def zPic (E : zE) (m : zM) (U : State) (H : Heap) : Prop :=
  2 ≤ zn m ∧ H.size + 2 = E.2.1 + zn m ∧ E.1 < E.2.1 ∧ va_X E.1 (zR m 1 0) (zI m 1) U H ∧ ∀ a, 2 ≤ a → a < zn m → zAt E m a H
def ztys (cy : Nat → ClassId) : List (ClassId × FieldType) := [(cy 10, .byte), (cy 11, .float), (cy 12, .int), (cy 13, .long), (cy 14, .boolean), (cy 15, .object RX2), (cy 16, .object RX4), (cy 17, .object RX5), (cy 18, .object RX6)]
def zaty (kd : Nat) : FieldType := if kd = 10 then .byte else if kd = 11 then .float else if kd = 12 then .int else if kd = 13 then .long else if kd = 14 then .boolean else if kd = 15 then .object RX2 else if kd = 16 then .object RX4 else if kd = 17 then .object RX5 else .object RX6
def zW : List Cond := lw_tbl.filter goodWord
theorem zin {w : Cond} (i : Nat) (h : lw_tbl[i]? = some w) (hg : goodWord w = true) : w ∈ zW := List.mem_filter.mpr ⟨List.mem_of_getElem? h, hg⟩
theorem zW_good {w : Cond} (h : w ∈ zW) : w ∈ zW ∧ ((w.onTables && w.keeps) = true ∨ ∃ ty, w = .arrayClass ty) := ⟨h, good_of_word (List.mem_filter.mp h).2⟩
theorem zGood {w : Cond} {ws : List Cond} (h : w ∈ zW) (hs : ∀ x ∈ ws, x ∈ zW) : GoodIn zW (w :: ws) := fun x hx => zW_good ((List.mem_cons.mp hx).elim (fun e => e ▸ h) (hs x))
/-- the class words of the nest, and of the arrays over own classes, which a warmed table keeps too -/
def znest (U : State) : Prop := ∀ w ∈ lw_tbl, (match w with | .methodLinkNest _ _ _ _ => true | .arrayOver (.object _) => true | _ => false) = true → va_Nw w U
def zKs (E : zE) (U : State) : Prop := va_K E.2.2.1 vwCl (ztys E.2.2.2) U ∧ znest U
theorem znest.moved {s U : State} (hW : s.WarmedH U.vm) (h : znest s) : znest U := by
  intro w hw hk
  have h1 := h w hw hk
  match w, hk, h1 with
  | .methodLinkNest a i x b, _, h1 => exact va_Nw.warmM hW h1
  | .arrayOver (.object C), _, h1 => exact va_AO.moved hW.alike h1
theorem zKs.moved {E : zE} {s U : State} (hW : s.WarmedH U.vm) (h : zKs E s) : zKs E U := ⟨va_K.moved hW.alike h.1, h.2.moved hW⟩
theorem zPic.moved {E : zE} {m : zM} {u U : State} {H : Heap} (hvm : u.vm.Alike U.vm) (h : zPic E m u H) : zPic E m U H := ⟨h.1, h.2.1, h.2.2.1, va_X.moved hvm h.2.2.2.1, h.2.2.2.2⟩
/-- locals: a place that holds no value, or a long's second half, is a retAddr here -/
def zU : Value := .retAddr 0
def zget : List Value → Nat → Value
  | [], _ => zU
  | v :: _, 0 => v
  | _ :: l, n + 1 => zget l n
def zset : List Value → Nat → Value → List Value
  | [], 0, x => [x]
  | [], n + 1, x => zU :: zset [] n x
  | _ :: l, 0, x => x :: l
  | v :: l, n + 1, x => v :: zset l n x
def zis (v : Value) : Bool := match v with
  | .retAddr _ => false
  | _ => true
def zc1 (ls : List Value) (i : Nat) : Bool := match i with
  | 0 => true
  | j + 1 => !((zget ls j).category == 2)
def zen : List Value → List Value
  | [] => []
  | v :: l => if v.category = 2 then v :: zU :: zen l else v :: zen l
theorem zget_zset (ls : List Value) (i : Nat) (x : Value) (j : Nat) : zget (zset ls i x) j = if j = i then x else zget ls j := by
  induction ls generalizing i j with
  | nil =>
    induction i generalizing j with
    | zero => cases j <;> simp [zset, zget]
    | succ i ih => cases j with
      | zero => simp [zset, zget]
      | succ j => simp [zset, zget, ih]
  | cons v l ih => cases i with
    | zero => cases j <;> simp [zset, zget]
    | succ i => cases j with
      | zero => simp [zset, zget]
      | succ j => simp [zset, zget, ih]
theorem ztr_cat (E : zE) (v : Value) : (ztr E v).category = v.category := by cases v <;> rfl
def zLs (E : zE) (lr : Array Slot) (nL : Nat) (ls : List Value) : Prop := lr.size = nL ∧ lv_wf lr ∧ ∀ i, zis (zget ls i) = true → lr[i]? = some (.val (ztr E (zget ls i)))
def zlv (E : zE) (nL : Nat) (ls : List Value) : List (Nat × Value) := (List.range nL).filterMap (fun i => if zis (zget ls i) = true then some (i, ztr E (zget ls i)) else none)
theorem zLs.has {E : zE} {lr : Array Slot} {nL : Nat} {ls : List Value} (h : zLs E lr nL ls) : lv_has lr nL (zlv E nL ls) := by
  refine ⟨h.1, h.2.1, fun q hq => ?_⟩
  obtain ⟨i, hi, he⟩ := List.mem_filterMap.mp hq
  by_cases hz : zis (zget ls i) = true
  · rw [if_pos hz] at he
    cases he
    exact h.2.2 i hz
  · rw [if_neg hz] at he
    cases he
theorem zlv_in {E : zE} {lr : Array Slot} {nL : Nat} {ls : List Value} (h : zLs E lr nL ls) {i : Nat} (hz : zis (zget ls i) = true) : (i, ztr E (zget ls i)) ∈ zlv E nL ls := by
  have h1 := h.2.2 i hz
  have h2 : i < nL := by rw [← h.1]; exact lv_lt h1
  exact List.mem_filterMap.mpr ⟨i, List.mem_range.mpr h2, by rw [if_pos hz]⟩
theorem zLs.put1 {E : zE} {lr lr' : Array Slot} {nL i : Nat} {ls : List Value} {v : Value} (h : zLs E lr nL ls) (hc : zc1 ls i = true)
    (h' : lv_has lr' nL ((i, ztr E v) :: (zlv E nL ls).filter (fun q => !(q.1 == i) && !(q.1 + 1 == i && q.2.category == 2)))) : zLs E lr' nL (zset ls i v) := by
  refine ⟨h'.1, h'.2.1, fun j hj => ?_⟩
  rw [zget_zset] at hj ⊢
  by_cases e : j = i
  · rw [if_pos e]
    subst e
    exact h'.2.2 (j, ztr E v) List.mem_cons_self
  · rw [if_neg e] at hj ⊢
    refine h'.2.2 (j, ztr E (zget ls j)) (List.mem_cons_of_mem _ (List.mem_filter.mpr ⟨zlv_in h hj, ?_⟩))
    simp only [Bool.and_eq_true, Bool.not_eq_true', beq_eq_false_iff_ne, ne_eq, Bool.and_eq_false_iff]
    refine ⟨e, ?_⟩
    by_cases e2 : j + 1 = i
    · right
      subst e2
      rw [ztr_cat]
      simpa [zc1] using hc
    · exact Or.inl e2
theorem zLs.put2 {E : zE} {lr lr' : Array Slot} {nL i : Nat} {ls : List Value} {v : Value} (h : zLs E lr nL ls) (hc : zc1 ls i = true)
    (h' : lv_has lr' nL ((i, ztr E v) :: (zlv E nL ls).filter (fun q => !(q.1 == i) && (!(q.1 == i + 1) && !(q.1 + 1 == i && q.2.category == 2))))) : zLs E lr' nL (zset (zset ls i v) (i + 1) zU) := by
  refine ⟨h'.1, h'.2.1, fun j hj => ?_⟩
  rw [zget_zset, zget_zset] at hj ⊢
  by_cases e1 : j = i + 1
  · rw [if_pos e1] at hj
    simp [zis, zU] at hj
  rw [if_neg e1] at hj ⊢
  by_cases e : j = i
  · rw [if_pos e]
    subst e
    exact h'.2.2 (j, ztr E v) List.mem_cons_self
  · rw [if_neg e] at hj ⊢
    refine h'.2.2 (j, ztr E (zget ls j)) (List.mem_cons_of_mem _ (List.mem_filter.mpr ⟨zlv_in h hj, ?_⟩))
    simp only [Bool.and_eq_true, Bool.not_eq_true', beq_eq_false_iff_ne, ne_eq, Bool.and_eq_false_iff]
    refine ⟨e, e1, ?_⟩
    by_cases e2 : j + 1 = i
    · right
      subst e2
      rw [ztr_cat]
      simpa [zc1] using hc
    · exact Or.inl e2
theorem zen_args (E : zE) (as : List Value) : ∀ (o i : Nat), zis (zget (zen as) i) = true → (o + i, ztr E (zget (zen as) i)) ∈ lv_args o (as.map (ztr E)) := by
  induction as with
  | nil => intro o i h; simp [zen, zget, zis, zU] at h
  | cons v l ih =>
    intro o i h
    rw [List.map_cons, lv_args, ztr_cat]
    unfold zen at h ⊢
    by_cases hc : v.category = 2
    · rw [if_pos hc] at h ⊢
      rw [if_pos hc]
      match i with
      | 0 => exact List.mem_cons_self
      | 1 => simp [zget, zis, zU] at h
      | i + 2 =>
        have := ih (o + 2) i h
        rw [show o + 2 + i = o + (i + 2) by omega] at this
        exact List.mem_cons_of_mem _ this
    · rw [if_neg hc] at h ⊢
      rw [if_neg hc]
      match i with
      | 0 => exact List.mem_cons_self
      | i + 1 =>
        have := ih (o + 1) i h
        rw [show o + 1 + i = o + (i + 1) by omega] at this
        exact List.mem_cons_of_mem _ this
theorem zen_len (E : zE) (as : List Value) : (lg_sl (as.map (ztr E))).length = (zen as).length := by
  induction as with
  | nil => rfl
  | cons v l ih =>
    unfold lg_sl at ih
    unfold zen
    by_cases hc : v.category = 2
    · rw [if_pos hc]
      simp only [lg_sl, List.map_cons, List.flatMap_cons, ztr_cat, hc, if_true, List.length_append, List.length_cons, List.length_nil]
      rw [ih]
      omega
    · rw [if_neg hc]
      simp only [lg_sl, List.map_cons, List.flatMap_cons, ztr_cat, hc, if_false, List.length_append, List.length_cons, List.length_nil]
      rw [ih]
      omega
end
section
/-! ===== methods, contexts, the judgement zwp and one row an instruction ===== -/
/-- a method: its class's number, whether it is a constructor, its bytes, its locals, its name, its answer's type -/
abbrev zMeth : Type := Nat × Bool × ByteArray × Nat × MethodName × Option FieldType
def zcn (k : Nat) : String := match k with
  | 0 => RX0
  | 1 => RX1
  | 2 => RX2
  | 3 => RX3
  | 4 => RX4
  | 5 => RX5
  | 6 => RX6
  | 7 => RX7
  | 8 => RX8
  | 9 => RX9
  | 10 => RL
  | 11 => RJ9
  | _ => RJxf58ca
def zrs (M : zMeth) (E : zE) (v : Value) : List Value := match M.2.2.2.2.2 with
  | none => []
  | some _ => [ztr E v]
/-- a return instruction, and what it may answer -/
def zRet (M : zMeth) (i : Instr) (v : Value) : Prop :=
  (M.2.2.2.2.2 = none ∧ i = .return_ ∧ v = .null) ∨ (M.2.2.2.2.2 = some .int ∧ i = .ireturn ∧ ∃ x, v = .int x) ∨ (M.2.2.2.2.2 = some .boolean ∧ i = .ireturn ∧ (v = .int 0 ∨ v = .int 1)) ∨
  (M.2.2.2.2.2 = some .long ∧ i = .lreturn ∧ ∃ x, v = .long x) ∨ ((∃ n, M.2.2.2.2.2 = some (.object n)) ∧ i = .areturn ∧ ∃ r, v = .ref r)
def zCtx (d : Nat) (M : zMeth) (mc ms : Nat) (Q : Value → zM → Prop) (p : Program) (l : Launch) (e : Env) (R : Room) (s : State) (mid : MethodId) (args : Array Value) (below : List Frame) (meth : Method) (c : Code) (F : State → Prop) (E : zE) : Prop :=
  p.tables.exec = Jvm.exec ∧ c.code = M.2.2.1 ∧ c.maxLocals = M.2.2.2.1 ∧ s.vm.findClass (zcn M.1) = some mid.cls ∧ (∀ w ∈ zW, w.before args s = true) ∧ zKs E s ∧ (d ≤ R.frames ∧ 40 * d ≤ R.locals ∧ mc ≤ R.cells ∧ ms ≤ R.slots) ∧ (M.2.1 = true → meth.name = "<init>") ∧
  ∀ (H : Heap) (locs : List Loc) (lr : Array Slot) (pc uc us : Nat) (i : Instr) (v : Value) (m : zM), zRet M i v → decode M.2.2.1 pc = .ok (i, 1) → uc ≤ mc → us ≤ ms → zPic E m s H → (∀ q ∈ locs, E.2.1 ≤ q.base) → Q v m →
    W p l e R s mid args below meth c H locs uc us F (F0 mid pc lr (zrs M E v))
def zwp (d : Nat) (M : zMeth) (mc ms : Nat) (Q : Value → zM → Prop) (pc : Nat) (ls st : List Value) (uc us : Nat) (m : zM) : Prop :=
  ∀ (p : Program) (l : Launch) (e : Env) (R : Room) (s : State) (mid : MethodId) (args : Array Value) (below : List Frame) (meth : Method) (c : Code) (F : State → Prop) (E : zE),
    zCtx d M mc ms Q p l e R s mid args below meth c F E →
    ∀ (H : Heap) (locs : List Loc) (lr : Array Slot), zPic E m s H → (∀ q ∈ locs, E.2.1 ≤ q.base) → zLs E lr M.2.2.2.1 ls →
      W p l e R s mid args below meth c H locs uc us F (F0 mid pc lr (st.map (ztr E)))
/-- an object of a class -/
def zOb (m : zM) (a ci : Nat) : Prop := (zLay a).1 = ci ∧ 2 ≤ a ∧ a < zn m
/-- an array of a kind and a length -/
def zAr (m : zM) (a kd n : Nat) : Prop := zLay a = (kd, n) ∧ 2 ≤ a ∧ a < zn m
section
variable {d : Nat} {M : zMeth} {mc ms : Nat} {Q : Value → zM → Prop} {pc : Nat} {ls st : List Value} {uc us : Nat} {m : zM}
theorem zr_iconst {n : Int} {v : Int32} (hd : decode M.2.2.1 pc = .ok (.iconst n, 1)) (hv : Int32.ofInt n = v) (k : zwp d M mc ms Q (pc + 1) ls (.int v :: st) uc us m) : zwp d M mc ms Q pc ls (st) uc us m := by
  intro p l e R s mid args below meth c F E X H locs lr hP hlo hls
  have hx := X.1
  have hb := X.2.1
  exact lv_iconst hx hb hd hv (k p l e R s mid args below meth c F E X H locs lr hP hlo hls)
theorem zr_bipush {n : Int} {v : Int32} (hd : decode M.2.2.1 pc = .ok (.bipush n, 2)) (hv : (Int8.ofInt n).toInt32 = v) (k : zwp d M mc ms Q (pc + 2) ls (.int v :: st) uc us m) : zwp d M mc ms Q pc ls (st) uc us m := by
  intro p l e R s mid args below meth c F E X H locs lr hP hlo hls
  have hx := X.1
  have hb := X.2.1
  exact lv_bipush hx hb hd hv (k p l e R s mid args below meth c F E X H locs lr hP hlo hls)
theorem zr_sipush {n : Int} {v : Int32} (hd : decode M.2.2.1 pc = .ok (.sipush n, 3)) (hv : (Int16.ofInt n).toInt32 = v) (k : zwp d M mc ms Q (pc + 3) ls (.int v :: st) uc us m) : zwp d M mc ms Q pc ls (st) uc us m := by
  intro p l e R s mid args below meth c F E X H locs lr hP hlo hls
  have hx := X.1
  have hb := X.2.1
  exact lv_sipush hx hb hd hv (k p l e R s mid args below meth c F E X H locs lr hP hlo hls)
theorem zr_lconst {n : Fin 2} {v : Int64} (hd : decode M.2.2.1 pc = .ok (.lconst n, 1)) (hv : Int64.ofNat (n : Nat) = v) (k : zwp d M mc ms Q (pc + 1) ls (.long v :: st) uc us m) : zwp d M mc ms Q pc ls (st) uc us m := by
  intro p l e R s mid args below meth c F E X H locs lr hP hlo hls
  have hx := X.1
  have hb := X.2.1
  exact lv_lconst hx hb hd hv (k p l e R s mid args below meth c F E X H locs lr hP hlo hls)
theorem zr_dconst1  (hd : decode M.2.2.1 pc = .ok (.dconst 1, 1)) (k : zwp d M mc ms Q (pc + 1) ls (.double FP.dconst1 :: st) uc us m) : zwp d M mc ms Q pc ls (st) uc us m := by
  intro p l e R s mid args below meth c F E X H locs lr hP hlo hls
  have hx := X.1
  have hb := X.2.1
  exact lv_dconst1 hx hb hd (k p l e R s mid args below meth c F E X H locs lr hP hlo hls)
theorem zr_iload_n {n : Fin 4} {x : Int32} (hd : decode M.2.2.1 pc = .ok (.iload_n n, 1)) (hl : zget ls n = .int x) (k : zwp d M mc ms Q (pc + 1) ls (.int x :: st) uc us m) : zwp d M mc ms Q pc ls st uc us m := by
  intro p l e R s mid args below meth c F E X H locs lr hP hlo hls
  have hx := X.1
  have hb := X.2.1
  have h := hls.2.2 n (by rw [hl]; rfl)
  rw [hl] at h
  exact lv_iload_n hx hb hd rfl h (k p l e R s mid args below meth c F E X H locs lr hP hlo hls)
theorem zr_iload {n : Nat} {x : Int32} (hd : decode M.2.2.1 pc = .ok (.iload n, 2)) (hl : zget ls n = .int x) (k : zwp d M mc ms Q (pc + 2) ls (.int x :: st) uc us m) : zwp d M mc ms Q pc ls st uc us m := by
  intro p l e R s mid args below meth c F E X H locs lr hP hlo hls
  have hx := X.1
  have hb := X.2.1
  have h := hls.2.2 n (by rw [hl]; rfl)
  rw [hl] at h
  exact lv_iload hx hb hd h (k p l e R s mid args below meth c F E X H locs lr hP hlo hls)
theorem zr_lload_n {n : Fin 4} {x : Int64} (hd : decode M.2.2.1 pc = .ok (.lload_n n, 1)) (hl : zget ls n = .long x) (k : zwp d M mc ms Q (pc + 1) ls (.long x :: st) uc us m) : zwp d M mc ms Q pc ls st uc us m := by
  intro p l e R s mid args below meth c F E X H locs lr hP hlo hls
  have hx := X.1
  have hb := X.2.1
  have h := hls.2.2 n (by rw [hl]; rfl)
  rw [hl] at h
  exact lv_lload_n hx hb hd rfl h (k p l e R s mid args below meth c F E X H locs lr hP hlo hls)
theorem zr_lload {n : Nat} {x : Int64} (hd : decode M.2.2.1 pc = .ok (.lload n, 2)) (hl : zget ls n = .long x) (k : zwp d M mc ms Q (pc + 2) ls (.long x :: st) uc us m) : zwp d M mc ms Q pc ls st uc us m := by
  intro p l e R s mid args below meth c F E X H locs lr hP hlo hls
  have hx := X.1
  have hb := X.2.1
  have h := hls.2.2 n (by rw [hl]; rfl)
  rw [hl] at h
  exact lv_lload hx hb hd h (k p l e R s mid args below meth c F E X H locs lr hP hlo hls)
theorem zr_fload_n {n : Fin 4} {x : UInt32} (hd : decode M.2.2.1 pc = .ok (.fload_n n, 1)) (hl : zget ls n = .float x) (k : zwp d M mc ms Q (pc + 1) ls (.float x :: st) uc us m) : zwp d M mc ms Q pc ls st uc us m := by
  intro p l e R s mid args below meth c F E X H locs lr hP hlo hls
  have hx := X.1
  have hb := X.2.1
  have h := hls.2.2 n (by rw [hl]; rfl)
  rw [hl] at h
  exact lv_fload_n hx hb hd rfl h (k p l e R s mid args below meth c F E X H locs lr hP hlo hls)
theorem zr_fload {n : Nat} {x : UInt32} (hd : decode M.2.2.1 pc = .ok (.fload n, 2)) (hl : zget ls n = .float x) (k : zwp d M mc ms Q (pc + 2) ls (.float x :: st) uc us m) : zwp d M mc ms Q pc ls st uc us m := by
  intro p l e R s mid args below meth c F E X H locs lr hP hlo hls
  have hx := X.1
  have hb := X.2.1
  have h := hls.2.2 n (by rw [hl]; rfl)
  rw [hl] at h
  exact lv_fload hx hb hd h (k p l e R s mid args below meth c F E X H locs lr hP hlo hls)
theorem zr_dload_n {n : Fin 4} {x : UInt64} (hd : decode M.2.2.1 pc = .ok (.dload_n n, 1)) (hl : zget ls n = .double x) (k : zwp d M mc ms Q (pc + 1) ls (.double x :: st) uc us m) : zwp d M mc ms Q pc ls st uc us m := by
  intro p l e R s mid args below meth c F E X H locs lr hP hlo hls
  have hx := X.1
  have hb := X.2.1
  have h := hls.2.2 n (by rw [hl]; rfl)
  rw [hl] at h
  exact lv_dload_n hx hb hd rfl h (k p l e R s mid args below meth c F E X H locs lr hP hlo hls)
theorem zr_dload {n : Nat} {x : UInt64} (hd : decode M.2.2.1 pc = .ok (.dload n, 2)) (hl : zget ls n = .double x) (k : zwp d M mc ms Q (pc + 2) ls (.double x :: st) uc us m) : zwp d M mc ms Q pc ls st uc us m := by
  intro p l e R s mid args below meth c F E X H locs lr hP hlo hls
  have hx := X.1
  have hb := X.2.1
  have h := hls.2.2 n (by rw [hl]; rfl)
  rw [hl] at h
  exact lv_dload hx hb hd h (k p l e R s mid args below meth c F E X H locs lr hP hlo hls)
theorem zr_aload_n {n : Fin 4} {x : Nat} (hd : decode M.2.2.1 pc = .ok (.aload_n n, 1)) (hl : zget ls n = .ref x) (k : zwp d M mc ms Q (pc + 1) ls (.ref x :: st) uc us m) : zwp d M mc ms Q pc ls st uc us m := by
  intro p l e R s mid args below meth c F E X H locs lr hP hlo hls
  have hx := X.1
  have hb := X.2.1
  have h := hls.2.2 n (by rw [hl]; rfl)
  rw [hl] at h
  exact lv_aload_n (x := zad E x) hx hb hd rfl h (k p l e R s mid args below meth c F E X H locs lr hP hlo hls)
theorem zr_aload {n : Nat} {x : Nat} (hd : decode M.2.2.1 pc = .ok (.aload n, 2)) (hl : zget ls n = .ref x) (k : zwp d M mc ms Q (pc + 2) ls (.ref x :: st) uc us m) : zwp d M mc ms Q pc ls st uc us m := by
  intro p l e R s mid args below meth c F E X H locs lr hP hlo hls
  have hx := X.1
  have hb := X.2.1
  have h := hls.2.2 n (by rw [hl]; rfl)
  rw [hl] at h
  exact lv_aload (x := zad E x) hx hb hd h (k p l e R s mid args below meth c F E X H locs lr hP hlo hls)
theorem zr_istore_n {n : Fin 4} {x : Int32} (hd : decode M.2.2.1 pc = .ok (.istore_n n, 1)) (hn : (n : Nat) < M.2.2.2.1) (hc : zc1 ls n = true) (k : zwp d M mc ms Q (pc + 1) (zset ls (n : Nat) (.int x)) st uc us m) : zwp d M mc ms Q pc ls (.int x :: st) uc us m := by
  intro p l e R s mid args below meth c F E X H locs lr hP hlo hls
  have hx := X.1
  have hb := X.2.1
  exact lv_istore_n hx hb hd rfl hls.has hn rfl (fun lr' h' => k p l e R s mid args below meth c F E X H locs lr' hP hlo (hls.put1 (v := .int x) hc h'))
theorem zr_istore {n : Nat} {x : Int32} (hd : decode M.2.2.1 pc = .ok (.istore n, 2)) (hn : (n : Nat) < M.2.2.2.1) (hc : zc1 ls n = true) (k : zwp d M mc ms Q (pc + 2) (zset ls n (.int x)) st uc us m) : zwp d M mc ms Q pc ls (.int x :: st) uc us m := by
  intro p l e R s mid args below meth c F E X H locs lr hP hlo hls
  have hx := X.1
  have hb := X.2.1
  exact lv_istore hx hb hd hls.has hn rfl (fun lr' h' => k p l e R s mid args below meth c F E X H locs lr' hP hlo (hls.put1 (v := .int x) hc h'))
theorem zr_lstore_n {n : Fin 4} {x : Int64} (hd : decode M.2.2.1 pc = .ok (.lstore_n n, 1)) (hn : (n : Nat) + 1 < M.2.2.2.1) (hc : zc1 ls n = true) (k : zwp d M mc ms Q (pc + 1) (zset (zset ls (n : Nat) (.long x)) ((n : Nat) + 1) zU) st uc us m) : zwp d M mc ms Q pc ls (.long x :: st) uc us m := by
  intro p l e R s mid args below meth c F E X H locs lr hP hlo hls
  have hx := X.1
  have hb := X.2.1
  exact lv_lstore_n hx hb hd rfl hls.has hn rfl (fun lr' h' => k p l e R s mid args below meth c F E X H locs lr' hP hlo (hls.put2 (v := .long x) hc h'))
theorem zr_lstore {n : Nat} {x : Int64} (hd : decode M.2.2.1 pc = .ok (.lstore n, 2)) (hn : (n : Nat) + 1 < M.2.2.2.1) (hc : zc1 ls n = true) (k : zwp d M mc ms Q (pc + 2) (zset (zset ls n (.long x)) (n + 1) zU) st uc us m) : zwp d M mc ms Q pc ls (.long x :: st) uc us m := by
  intro p l e R s mid args below meth c F E X H locs lr hP hlo hls
  have hx := X.1
  have hb := X.2.1
  exact lv_lstore hx hb hd hls.has hn rfl (fun lr' h' => k p l e R s mid args below meth c F E X H locs lr' hP hlo (hls.put2 (v := .long x) hc h'))
theorem zr_fstore_n {n : Fin 4} {x : UInt32} (hd : decode M.2.2.1 pc = .ok (.fstore_n n, 1)) (hn : (n : Nat) < M.2.2.2.1) (hc : zc1 ls n = true) (k : zwp d M mc ms Q (pc + 1) (zset ls (n : Nat) (.float x)) st uc us m) : zwp d M mc ms Q pc ls (.float x :: st) uc us m := by
  intro p l e R s mid args below meth c F E X H locs lr hP hlo hls
  have hx := X.1
  have hb := X.2.1
  exact lv_fstore_n hx hb hd rfl hls.has hn rfl (fun lr' h' => k p l e R s mid args below meth c F E X H locs lr' hP hlo (hls.put1 (v := .float x) hc h'))
theorem zr_fstore {n : Nat} {x : UInt32} (hd : decode M.2.2.1 pc = .ok (.fstore n, 2)) (hn : (n : Nat) < M.2.2.2.1) (hc : zc1 ls n = true) (k : zwp d M mc ms Q (pc + 2) (zset ls n (.float x)) st uc us m) : zwp d M mc ms Q pc ls (.float x :: st) uc us m := by
  intro p l e R s mid args below meth c F E X H locs lr hP hlo hls
  have hx := X.1
  have hb := X.2.1
  exact lv_fstore hx hb hd hls.has hn rfl (fun lr' h' => k p l e R s mid args below meth c F E X H locs lr' hP hlo (hls.put1 (v := .float x) hc h'))
theorem zr_dstore_n {n : Fin 4} {x : UInt64} (hd : decode M.2.2.1 pc = .ok (.dstore_n n, 1)) (hn : (n : Nat) + 1 < M.2.2.2.1) (hc : zc1 ls n = true) (k : zwp d M mc ms Q (pc + 1) (zset (zset ls (n : Nat) (.double x)) ((n : Nat) + 1) zU) st uc us m) : zwp d M mc ms Q pc ls (.double x :: st) uc us m := by
  intro p l e R s mid args below meth c F E X H locs lr hP hlo hls
  have hx := X.1
  have hb := X.2.1
  exact lv_dstore_n hx hb hd rfl hls.has hn rfl (fun lr' h' => k p l e R s mid args below meth c F E X H locs lr' hP hlo (hls.put2 (v := .double x) hc h'))
theorem zr_dstore {n : Nat} {x : UInt64} (hd : decode M.2.2.1 pc = .ok (.dstore n, 2)) (hn : (n : Nat) + 1 < M.2.2.2.1) (hc : zc1 ls n = true) (k : zwp d M mc ms Q (pc + 2) (zset (zset ls n (.double x)) (n + 1) zU) st uc us m) : zwp d M mc ms Q pc ls (.double x :: st) uc us m := by
  intro p l e R s mid args below meth c F E X H locs lr hP hlo hls
  have hx := X.1
  have hb := X.2.1
  exact lv_dstore hx hb hd hls.has hn rfl (fun lr' h' => k p l e R s mid args below meth c F E X H locs lr' hP hlo (hls.put2 (v := .double x) hc h'))
theorem zr_astore_n {n : Fin 4} {x : Nat} (hd : decode M.2.2.1 pc = .ok (.astore_n n, 1)) (hn : (n : Nat) < M.2.2.2.1) (hc : zc1 ls n = true) (k : zwp d M mc ms Q (pc + 1) (zset ls (n : Nat) (.ref x)) st uc us m) : zwp d M mc ms Q pc ls (.ref x :: st) uc us m := by
  intro p l e R s mid args below meth c F E X H locs lr hP hlo hls
  have hx := X.1
  have hb := X.2.1
  exact lv_astore_n (x := zad E x) hx hb hd rfl hls.has hn rfl (fun lr' h' => k p l e R s mid args below meth c F E X H locs lr' hP hlo (hls.put1 (v := .ref x) hc h'))
theorem zr_astore {n : Nat} {x : Nat} (hd : decode M.2.2.1 pc = .ok (.astore n, 2)) (hn : (n : Nat) < M.2.2.2.1) (hc : zc1 ls n = true) (k : zwp d M mc ms Q (pc + 2) (zset ls n (.ref x)) st uc us m) : zwp d M mc ms Q pc ls (.ref x :: st) uc us m := by
  intro p l e R s mid args below meth c F E X H locs lr hP hlo hls
  have hx := X.1
  have hb := X.2.1
  exact lv_astore (x := zad E x) hx hb hd hls.has hn rfl (fun lr' h' => k p l e R s mid args below meth c F E X H locs lr' hP hlo (hls.put1 (v := .ref x) hc h'))
theorem zr_iinc {n : Nat} {z : Int} {x v : Int32} (hd : decode M.2.2.1 pc = .ok (.iinc n z, 3)) (hl : zget ls n = .int x) (hv : x + Int32.ofInt z = v) (hn : n < M.2.2.2.1) (hc : zc1 ls n = true) (k : zwp d M mc ms Q (pc + 3) (zset ls n (.int v)) st uc us m) : zwp d M mc ms Q pc ls st uc us m := by
  intro p l e R s mid args below meth c F E X H locs lr hP hlo hls
  have hx := X.1
  have hb := X.2.1
  have h0 := zlv_in hls (i := n) (by rw [hl]; rfl)
  rw [hl] at h0
  obtain ⟨k0, hk0⟩ := List.getElem?_of_mem h0
  exact lv_iinc hx hb hd hls.has hk0 hv hn rfl (fun lr' h' => k p l e R s mid args below meth c F E X H locs lr' hP hlo (hls.put1 (v := .int v) hc h'))
theorem zr_iadd {x y : Int32} (hd : decode M.2.2.1 pc = .ok (.iadd, 1)) (k : zwp d M mc ms Q (pc + 1) ls (.int (x + y) :: st) uc us m) : zwp d M mc ms Q pc ls (.int y :: .int x :: st) uc us m := by
  intro p l e R s mid args below meth c F E X H locs lr hP hlo hls
  have hx := X.1
  have hb := X.2.1
  exact lv_iadd hx hb hd (k p l e R s mid args below meth c F E X H locs lr hP hlo hls)
theorem zr_isub {x y : Int32} (hd : decode M.2.2.1 pc = .ok (.isub, 1)) (k : zwp d M mc ms Q (pc + 1) ls (.int (x - y) :: st) uc us m) : zwp d M mc ms Q pc ls (.int y :: .int x :: st) uc us m := by
  intro p l e R s mid args below meth c F E X H locs lr hP hlo hls
  have hx := X.1
  have hb := X.2.1
  exact lv_isub hx hb hd (k p l e R s mid args below meth c F E X H locs lr hP hlo hls)
theorem zr_imul {x y : Int32} (hd : decode M.2.2.1 pc = .ok (.imul, 1)) (k : zwp d M mc ms Q (pc + 1) ls (.int (x * y) :: st) uc us m) : zwp d M mc ms Q pc ls (.int y :: .int x :: st) uc us m := by
  intro p l e R s mid args below meth c F E X H locs lr hP hlo hls
  have hx := X.1
  have hb := X.2.1
  exact lv_imul hx hb hd (k p l e R s mid args below meth c F E X H locs lr hP hlo hls)
theorem zr_iand {x y : Int32} (hd : decode M.2.2.1 pc = .ok (.iand, 1)) (k : zwp d M mc ms Q (pc + 1) ls (.int (x &&& y) :: st) uc us m) : zwp d M mc ms Q pc ls (.int y :: .int x :: st) uc us m := by
  intro p l e R s mid args below meth c F E X H locs lr hP hlo hls
  have hx := X.1
  have hb := X.2.1
  exact lv_iand hx hb hd (k p l e R s mid args below meth c F E X H locs lr hP hlo hls)
theorem zr_ior {x y : Int32} (hd : decode M.2.2.1 pc = .ok (.ior, 1)) (k : zwp d M mc ms Q (pc + 1) ls (.int (x ||| y) :: st) uc us m) : zwp d M mc ms Q pc ls (.int y :: .int x :: st) uc us m := by
  intro p l e R s mid args below meth c F E X H locs lr hP hlo hls
  have hx := X.1
  have hb := X.2.1
  exact lv_ior hx hb hd (k p l e R s mid args below meth c F E X H locs lr hP hlo hls)
theorem zr_ishl {x y : Int32} (hd : decode M.2.2.1 pc = .ok (.ishl, 1)) (k : zwp d M mc ms Q (pc + 1) ls (.int (x <<< (y &&& 31)) :: st) uc us m) : zwp d M mc ms Q pc ls (.int y :: .int x :: st) uc us m := by
  intro p l e R s mid args below meth c F E X H locs lr hP hlo hls
  have hx := X.1
  have hb := X.2.1
  exact lv_ishl hx hb hd (k p l e R s mid args below meth c F E X H locs lr hP hlo hls)
theorem zr_idiv {x y : Int32} (hd : decode M.2.2.1 pc = .ok (.idiv, 1)) (hne : ¬ y = 0) (k : zwp d M mc ms Q (pc + 1) ls (.int (x / y) :: st) uc us m) : zwp d M mc ms Q pc ls (.int y :: .int x :: st) uc us m := by
  intro p l e R s mid args below meth c F E X H locs lr hP hlo hls
  have hx := X.1
  have hb := X.2.1
  exact lv_idiv hx hb hd hne (k p l e R s mid args below meth c F E X H locs lr hP hlo hls)
theorem zr_irem {x y : Int32} (hd : decode M.2.2.1 pc = .ok (.irem, 1)) (hne : ¬ y = 0) (k : zwp d M mc ms Q (pc + 1) ls (.int (x - x / y * y) :: st) uc us m) : zwp d M mc ms Q pc ls (.int y :: .int x :: st) uc us m := by
  intro p l e R s mid args below meth c F E X H locs lr hP hlo hls
  have hx := X.1
  have hb := X.2.1
  exact lv_irem hx hb hd hne (k p l e R s mid args below meth c F E X H locs lr hP hlo hls)
theorem zr_ladd {x y : Int64} (hd : decode M.2.2.1 pc = .ok (.ladd, 1)) (k : zwp d M mc ms Q (pc + 1) ls (.long (x + y) :: st) uc us m) : zwp d M mc ms Q pc ls (.long y :: .long x :: st) uc us m := by
  intro p l e R s mid args below meth c F E X H locs lr hP hlo hls
  have hx := X.1
  have hb := X.2.1
  exact lv_ladd hx hb hd (k p l e R s mid args below meth c F E X H locs lr hP hlo hls)
theorem zr_lmul {x y : Int64} (hd : decode M.2.2.1 pc = .ok (.lmul, 1)) (k : zwp d M mc ms Q (pc + 1) ls (.long (x * y) :: st) uc us m) : zwp d M mc ms Q pc ls (.long y :: .long x :: st) uc us m := by
  intro p l e R s mid args below meth c F E X H locs lr hP hlo hls
  have hx := X.1
  have hb := X.2.1
  exact lv_lmul hx hb hd (k p l e R s mid args below meth c F E X H locs lr hP hlo hls)
theorem zr_land {x y : Int64} (hd : decode M.2.2.1 pc = .ok (.land, 1)) (k : zwp d M mc ms Q (pc + 1) ls (.long (x &&& y) :: st) uc us m) : zwp d M mc ms Q pc ls (.long y :: .long x :: st) uc us m := by
  intro p l e R s mid args below meth c F E X H locs lr hP hlo hls
  have hx := X.1
  have hb := X.2.1
  exact lv_land hx hb hd (k p l e R s mid args below meth c F E X H locs lr hP hlo hls)
theorem zr_lor {x y : Int64} (hd : decode M.2.2.1 pc = .ok (.lor, 1)) (k : zwp d M mc ms Q (pc + 1) ls (.long (x ||| y) :: st) uc us m) : zwp d M mc ms Q pc ls (.long y :: .long x :: st) uc us m := by
  intro p l e R s mid args below meth c F E X H locs lr hP hlo hls
  have hx := X.1
  have hb := X.2.1
  exact lv_lor hx hb hd (k p l e R s mid args below meth c F E X H locs lr hP hlo hls)
theorem zr_lcmp {x y : Int64} (hd : decode M.2.2.1 pc = .ok (.lcmp, 1)) (k : zwp d M mc ms Q (pc + 1) ls (.int (lg_cmp x y) :: st) uc us m) : zwp d M mc ms Q pc ls (.long y :: .long x :: st) uc us m := by
  intro p l e R s mid args below meth c F E X H locs lr hP hlo hls
  have hx := X.1
  have hb := X.2.1
  exact W.lcmp hx hb hd (k p l e R s mid args below meth c F E X H locs lr hP hlo hls)
theorem zr_i2l {x : Int32} (hd : decode M.2.2.1 pc = .ok (.i2l, 1)) (k : zwp d M mc ms Q (pc + 1) ls (.long x.toInt64 :: st) uc us m) : zwp d M mc ms Q pc ls (.int x :: st) uc us m := by
  intro p l e R s mid args below meth c F E X H locs lr hP hlo hls
  have hx := X.1
  have hb := X.2.1
  exact lv_i2l hx hb hd rfl (k p l e R s mid args below meth c F E X H locs lr hP hlo hls)
theorem zr_i2b {x : Int32} (hd : decode M.2.2.1 pc = .ok (.i2b, 1)) (k : zwp d M mc ms Q (pc + 1) ls (.int x.toInt8.toInt32 :: st) uc us m) : zwp d M mc ms Q pc ls (.int x :: st) uc us m := by
  intro p l e R s mid args below meth c F E X H locs lr hP hlo hls
  have hx := X.1
  have hb := X.2.1
  exact lv_i2b hx hb hd rfl (k p l e R s mid args below meth c F E X H locs lr hP hlo hls)
theorem zr_lushr {x : Int64} {y : Int32} (hd : decode M.2.2.1 pc = .ok (.lushr, 1)) (k : zwp d M mc ms Q (pc + 1) ls (.long (x.toUInt64 >>> (y.toInt64.toUInt64 &&& Int64.toUInt64 63)).toInt64 :: st) uc us m) : zwp d M mc ms Q pc ls (.int y :: .long x :: st) uc us m := by
  intro p l e R s mid args below meth c F E X H locs lr hP hlo hls
  have hx := X.1
  have hb := X.2.1
  exact lv_lushr hx hb hd rfl (k p l e R s mid args below meth c F E X H locs lr hP hlo hls)
theorem zr_lshl {x : Int64} {y : Int32} (hd : decode M.2.2.1 pc = .ok (.lshl, 1)) (k : zwp d M mc ms Q (pc + 1) ls (.long (x <<< (y.toInt64 &&& 63)) :: st) uc us m) : zwp d M mc ms Q pc ls (.int y :: .long x :: st) uc us m := by
  intro p l e R s mid args below meth c F E X H locs lr hP hlo hls
  have hx := X.1
  have hb := X.2.1
  exact lv_lshl hx hb hd rfl (k p l e R s mid args below meth c F E X H locs lr hP hlo hls)
theorem zr_fadd {x y : UInt32} (hd : decode M.2.2.1 pc = .ok (.fadd, 1)) (hne : vf_n32 (FP.fadd x y)) (k : zwp d M mc ms Q (pc + 1) ls (.float (FP.fadd x y) :: st) uc us m) : zwp d M mc ms Q pc ls (.float y :: .float x :: st) uc us m := by
  intro p l e R s mid args below meth c F E X H locs lr hP hlo hls
  have hx := X.1
  have hb := X.2.1
  exact lv_fadd hx hb hd hne (k p l e R s mid args below meth c F E X H locs lr hP hlo hls)
theorem zr_fmul {x y : UInt32} (hd : decode M.2.2.1 pc = .ok (.fmul, 1)) (hne : vf_n32 (FP.fmul x y)) (k : zwp d M mc ms Q (pc + 1) ls (.float (FP.fmul x y) :: st) uc us m) : zwp d M mc ms Q pc ls (.float y :: .float x :: st) uc us m := by
  intro p l e R s mid args below meth c F E X H locs lr hP hlo hls
  have hx := X.1
  have hb := X.2.1
  exact lv_fmul hx hb hd hne (k p l e R s mid args below meth c F E X H locs lr hP hlo hls)
theorem zr_dmul {x y : UInt64} (hd : decode M.2.2.1 pc = .ok (.dmul, 1)) (hne : vf_n64 (FP.dmul x y)) (k : zwp d M mc ms Q (pc + 1) ls (.double (FP.dmul x y) :: st) uc us m) : zwp d M mc ms Q pc ls (.double y :: .double x :: st) uc us m := by
  intro p l e R s mid args below meth c F E X H locs lr hP hlo hls
  have hx := X.1
  have hb := X.2.1
  exact lv_dmul hx hb hd hne (k p l e R s mid args below meth c F E X H locs lr hP hlo hls)
theorem zr_fcmp {x y : UInt32} {op : CmpOp} (hd : decode M.2.2.1 pc = .ok (.fcmp op, 1)) (k : zwp d M mc ms Q (pc + 1) ls (.int (Op.cmpValue (FP.fcmp x y) op) :: st) uc us m) : zwp d M mc ms Q pc ls (.float y :: .float x :: st) uc us m := by
  intro p l e R s mid args below meth c F E X H locs lr hP hlo hls
  have hx := X.1
  have hb := X.2.1
  exact lv_fcmp hx hb hd (k p l e R s mid args below meth c F E X H locs lr hP hlo hls)
theorem zr_dcmp {x y : UInt64} {op : CmpOp} (hd : decode M.2.2.1 pc = .ok (.dcmp op, 1)) (k : zwp d M mc ms Q (pc + 1) ls (.int (Op.cmpValue (FP.dcmp x y) op) :: st) uc us m) : zwp d M mc ms Q pc ls (.double y :: .double x :: st) uc us m := by
  intro p l e R s mid args below meth c F E X H locs lr hP hlo hls
  have hx := X.1
  have hb := X.2.1
  exact lv_dcmp hx hb hd (k p l e R s mid args below meth c F E X H locs lr hP hlo hls)
theorem zr_i2f {x : Int32} (hd : decode M.2.2.1 pc = .ok (.i2f, 1)) (k : zwp d M mc ms Q (pc + 1) ls (.float (FP.i2f x) :: st) uc us m) : zwp d M mc ms Q pc ls (.int x :: st) uc us m := by
  intro p l e R s mid args below meth c F E X H locs lr hP hlo hls
  have hx := X.1
  have hb := X.2.1
  exact lv_i2f hx hb hd (k p l e R s mid args below meth c F E X H locs lr hP hlo hls)
theorem zr_d2i {x : UInt64} (hd : decode M.2.2.1 pc = .ok (.d2i, 1)) (k : zwp d M mc ms Q (pc + 1) ls (.int (FP.d2i x) :: st) uc us m) : zwp d M mc ms Q pc ls (.double x :: st) uc us m := by
  intro p l e R s mid args below meth c F E X H locs lr hP hlo hls
  have hx := X.1
  have hb := X.2.1
  exact lv_d2i hx hb hd (k p l e R s mid args below meth c F E X H locs lr hP hlo hls)
theorem zr_f2d {x : UInt32} (hd : decode M.2.2.1 pc = .ok (.f2d, 1)) (hne : vf_n64 (FP.f2d x)) (k : zwp d M mc ms Q (pc + 1) ls (.double (FP.f2d x) :: st) uc us m) : zwp d M mc ms Q pc ls (.float x :: st) uc us m := by
  intro p l e R s mid args below meth c F E X H locs lr hP hlo hls
  have hx := X.1
  have hb := X.2.1
  exact lv_f2d hx hb hd hne (k p l e R s mid args below meth c F E X H locs lr hP hlo hls)
theorem zr_dup {a : Value} (hd : decode M.2.2.1 pc = .ok (.dup, 1)) (ha : a.category = 1) (k : zwp d M mc ms Q (pc + 1) ls (a :: a :: st) uc us m) : zwp d M mc ms Q pc ls (a :: st) uc us m := by
  intro p l e R s mid args below meth c F E X H locs lr hP hlo hls
  have hx := X.1
  have hb := X.2.1
  exact lv_dup hx hb hd ((ztr_cat E a).trans ha) (k p l e R s mid args below meth c F E X H locs lr hP hlo hls)
theorem zr_pop {a : Value} (hd : decode M.2.2.1 pc = .ok (.pop, 1)) (ha : a.category = 1) (k : zwp d M mc ms Q (pc + 1) ls st uc us m) : zwp d M mc ms Q pc ls (a :: st) uc us m := by
  intro p l e R s mid args below meth c F E X H locs lr hP hlo hls
  have hx := X.1
  have hb := X.2.1
  exact lv_pop hx hb hd ((ztr_cat E a).trans ha) (k p l e R s mid args below meth c F E X H locs lr hP hlo hls)
theorem zr_dup2 {a b : Value} (hd : decode M.2.2.1 pc = .ok (.dup2, 1)) (ha : a.category = 1) (hb1 : b.category = 1) (k : zwp d M mc ms Q (pc + 1) ls (a :: b :: a :: b :: st) uc us m) : zwp d M mc ms Q pc ls (a :: b :: st) uc us m := by
  intro p l e R s mid args below meth c F E X H locs lr hP hlo hls
  have hx := X.1
  have hb := X.2.1
  exact lv_dup2_11 hx hb hd ((ztr_cat E a).trans ha) ((ztr_cat E b).trans hb1) (k p l e R s mid args below meth c F E X H locs lr hP hlo hls)
theorem zr_if_eq {x : Int32} {off : Int} {tgt : Nat} (hd : decode M.2.2.1 pc = .ok (.ifCond .eq off, 3)) (ht : (pc : Int) + off = (tgt : Int)) (kt : x = 0 → zwp d M mc ms Q tgt ls st uc us m) (kf : ¬ x = 0 → zwp d M mc ms Q (pc + 3) ls st uc us m) : zwp d M mc ms Q pc ls (.int x :: st) uc us m := by
  intro p l e R s mid args below meth c F E X H locs lr hP hlo hls
  have hx := X.1
  have hb := X.2.1
  exact lv_if_eq hx hb hd ht (fun q => kt q p l e R s mid args below meth c F E X H locs lr hP hlo hls) (fun q => kf q p l e R s mid args below meth c F E X H locs lr hP hlo hls)
theorem zr_icmp_eq {x y : Int32} {off : Int} {tgt : Nat} (hd : decode M.2.2.1 pc = .ok (.if_icmp .eq off, 3)) (ht : (pc : Int) + off = (tgt : Int)) (kt : x = y → zwp d M mc ms Q tgt ls st uc us m) (kf : ¬ x = y → zwp d M mc ms Q (pc + 3) ls st uc us m) : zwp d M mc ms Q pc ls (.int y :: .int x :: st) uc us m := by
  intro p l e R s mid args below meth c F E X H locs lr hP hlo hls
  have hx := X.1
  have hb := X.2.1
  exact lv_icmp_eq hx hb hd ht (fun q => kt q p l e R s mid args below meth c F E X H locs lr hP hlo hls) (fun q => kf q p l e R s mid args below meth c F E X H locs lr hP hlo hls)
theorem zr_if_ne {x : Int32} {off : Int} {tgt : Nat} (hd : decode M.2.2.1 pc = .ok (.ifCond .ne off, 3)) (ht : (pc : Int) + off = (tgt : Int)) (kt : ¬ x = 0 → zwp d M mc ms Q tgt ls st uc us m) (kf : x = 0 → zwp d M mc ms Q (pc + 3) ls st uc us m) : zwp d M mc ms Q pc ls (.int x :: st) uc us m := by
  intro p l e R s mid args below meth c F E X H locs lr hP hlo hls
  have hx := X.1
  have hb := X.2.1
  exact lv_if_ne hx hb hd ht (fun q => kt q p l e R s mid args below meth c F E X H locs lr hP hlo hls) (fun q => kf q p l e R s mid args below meth c F E X H locs lr hP hlo hls)
theorem zr_icmp_ne {x y : Int32} {off : Int} {tgt : Nat} (hd : decode M.2.2.1 pc = .ok (.if_icmp .ne off, 3)) (ht : (pc : Int) + off = (tgt : Int)) (kt : ¬ x = y → zwp d M mc ms Q tgt ls st uc us m) (kf : x = y → zwp d M mc ms Q (pc + 3) ls st uc us m) : zwp d M mc ms Q pc ls (.int y :: .int x :: st) uc us m := by
  intro p l e R s mid args below meth c F E X H locs lr hP hlo hls
  have hx := X.1
  have hb := X.2.1
  exact lv_icmp_ne hx hb hd ht (fun q => kt q p l e R s mid args below meth c F E X H locs lr hP hlo hls) (fun q => kf q p l e R s mid args below meth c F E X H locs lr hP hlo hls)
theorem zr_if_lt {x : Int32} {off : Int} {tgt : Nat} (hd : decode M.2.2.1 pc = .ok (.ifCond .lt off, 3)) (ht : (pc : Int) + off = (tgt : Int)) (kt : x < 0 → zwp d M mc ms Q tgt ls st uc us m) (kf : ¬ x < 0 → zwp d M mc ms Q (pc + 3) ls st uc us m) : zwp d M mc ms Q pc ls (.int x :: st) uc us m := by
  intro p l e R s mid args below meth c F E X H locs lr hP hlo hls
  have hx := X.1
  have hb := X.2.1
  exact lv_if_lt hx hb hd ht (fun q => kt q p l e R s mid args below meth c F E X H locs lr hP hlo hls) (fun q => kf q p l e R s mid args below meth c F E X H locs lr hP hlo hls)
theorem zr_icmp_lt {x y : Int32} {off : Int} {tgt : Nat} (hd : decode M.2.2.1 pc = .ok (.if_icmp .lt off, 3)) (ht : (pc : Int) + off = (tgt : Int)) (kt : x < y → zwp d M mc ms Q tgt ls st uc us m) (kf : ¬ x < y → zwp d M mc ms Q (pc + 3) ls st uc us m) : zwp d M mc ms Q pc ls (.int y :: .int x :: st) uc us m := by
  intro p l e R s mid args below meth c F E X H locs lr hP hlo hls
  have hx := X.1
  have hb := X.2.1
  exact lv_icmp_lt hx hb hd ht (fun q => kt q p l e R s mid args below meth c F E X H locs lr hP hlo hls) (fun q => kf q p l e R s mid args below meth c F E X H locs lr hP hlo hls)
theorem zr_if_ge {x : Int32} {off : Int} {tgt : Nat} (hd : decode M.2.2.1 pc = .ok (.ifCond .ge off, 3)) (ht : (pc : Int) + off = (tgt : Int)) (kt : 0 ≤ x → zwp d M mc ms Q tgt ls st uc us m) (kf : ¬ 0 ≤ x → zwp d M mc ms Q (pc + 3) ls st uc us m) : zwp d M mc ms Q pc ls (.int x :: st) uc us m := by
  intro p l e R s mid args below meth c F E X H locs lr hP hlo hls
  have hx := X.1
  have hb := X.2.1
  exact lv_if_ge hx hb hd ht (fun q => kt q p l e R s mid args below meth c F E X H locs lr hP hlo hls) (fun q => kf q p l e R s mid args below meth c F E X H locs lr hP hlo hls)
theorem zr_icmp_ge {x y : Int32} {off : Int} {tgt : Nat} (hd : decode M.2.2.1 pc = .ok (.if_icmp .ge off, 3)) (ht : (pc : Int) + off = (tgt : Int)) (kt : y ≤ x → zwp d M mc ms Q tgt ls st uc us m) (kf : ¬ y ≤ x → zwp d M mc ms Q (pc + 3) ls st uc us m) : zwp d M mc ms Q pc ls (.int y :: .int x :: st) uc us m := by
  intro p l e R s mid args below meth c F E X H locs lr hP hlo hls
  have hx := X.1
  have hb := X.2.1
  exact lv_icmp_ge hx hb hd ht (fun q => kt q p l e R s mid args below meth c F E X H locs lr hP hlo hls) (fun q => kf q p l e R s mid args below meth c F E X H locs lr hP hlo hls)
theorem zr_if_gt {x : Int32} {off : Int} {tgt : Nat} (hd : decode M.2.2.1 pc = .ok (.ifCond .gt off, 3)) (ht : (pc : Int) + off = (tgt : Int)) (kt : 0 < x → zwp d M mc ms Q tgt ls st uc us m) (kf : ¬ 0 < x → zwp d M mc ms Q (pc + 3) ls st uc us m) : zwp d M mc ms Q pc ls (.int x :: st) uc us m := by
  intro p l e R s mid args below meth c F E X H locs lr hP hlo hls
  have hx := X.1
  have hb := X.2.1
  exact lv_if_gt hx hb hd ht (fun q => kt q p l e R s mid args below meth c F E X H locs lr hP hlo hls) (fun q => kf q p l e R s mid args below meth c F E X H locs lr hP hlo hls)
theorem zr_icmp_gt {x y : Int32} {off : Int} {tgt : Nat} (hd : decode M.2.2.1 pc = .ok (.if_icmp .gt off, 3)) (ht : (pc : Int) + off = (tgt : Int)) (kt : y < x → zwp d M mc ms Q tgt ls st uc us m) (kf : ¬ y < x → zwp d M mc ms Q (pc + 3) ls st uc us m) : zwp d M mc ms Q pc ls (.int y :: .int x :: st) uc us m := by
  intro p l e R s mid args below meth c F E X H locs lr hP hlo hls
  have hx := X.1
  have hb := X.2.1
  exact lv_icmp_gt hx hb hd ht (fun q => kt q p l e R s mid args below meth c F E X H locs lr hP hlo hls) (fun q => kf q p l e R s mid args below meth c F E X H locs lr hP hlo hls)
theorem zr_if_le {x : Int32} {off : Int} {tgt : Nat} (hd : decode M.2.2.1 pc = .ok (.ifCond .le off, 3)) (ht : (pc : Int) + off = (tgt : Int)) (kt : x ≤ 0 → zwp d M mc ms Q tgt ls st uc us m) (kf : ¬ x ≤ 0 → zwp d M mc ms Q (pc + 3) ls st uc us m) : zwp d M mc ms Q pc ls (.int x :: st) uc us m := by
  intro p l e R s mid args below meth c F E X H locs lr hP hlo hls
  have hx := X.1
  have hb := X.2.1
  exact lv_if_le hx hb hd ht (fun q => kt q p l e R s mid args below meth c F E X H locs lr hP hlo hls) (fun q => kf q p l e R s mid args below meth c F E X H locs lr hP hlo hls)
theorem zr_icmp_le {x y : Int32} {off : Int} {tgt : Nat} (hd : decode M.2.2.1 pc = .ok (.if_icmp .le off, 3)) (ht : (pc : Int) + off = (tgt : Int)) (kt : x ≤ y → zwp d M mc ms Q tgt ls st uc us m) (kf : ¬ x ≤ y → zwp d M mc ms Q (pc + 3) ls st uc us m) : zwp d M mc ms Q pc ls (.int y :: .int x :: st) uc us m := by
  intro p l e R s mid args below meth c F E X H locs lr hP hlo hls
  have hx := X.1
  have hb := X.2.1
  exact lv_icmp_le hx hb hd ht (fun q => kt q p l e R s mid args below meth c F E X H locs lr hP hlo hls) (fun q => kf q p l e R s mid args below meth c F E X H locs lr hP hlo hls)
theorem zr_goto {off : Int} {tgt : Nat} (hd : decode M.2.2.1 pc = .ok (.goto off, 3)) (ht : (pc : Int) + off = (tgt : Int)) (k : zwp d M mc ms Q tgt ls st uc us m) : zwp d M mc ms Q pc ls st uc us m := by
  intro p l e R s mid args below meth c F E X H locs lr hP hlo hls
  have hx := X.1
  have hb := X.2.1
  exact lv_goto hx hb hd ht (k p l e R s mid args below meth c F E X H locs lr hP hlo hls)
theorem zr_lookup {dflt : Int} {ps : Array (Int × Int)} {len : Nat} {x : Int32} {off : Int} {tgt : Nat} (hd : decode M.2.2.1 pc = .ok (.lookupswitch dflt ps, len)) (hp : (ps.toList.zip (ps.toList.drop 1)).all (fun (a, next) => a.1 < next.1) = true) (ho : Op.lookupswitch.offset ps.toList dflt x.toInt = off) (ht : (pc : Int) + off = (tgt : Int)) (k : zwp d M mc ms Q tgt ls st uc us m) : zwp d M mc ms Q pc ls (.int x :: st) uc us m := by
  intro p l e R s mid args below meth c F E X H locs lr hP hlo hls
  have hx := X.1
  have hb := X.2.1
  exact lv_lookup hx hb hd hp ho ht (k p l e R s mid args below meth c F E X H locs lr hP hlo hls)
theorem zr_tableOut {dflt lo hi : Int} {offs : Array Int} {len : Nat} {x : Int32} {tgt : Nat} (hd : decode M.2.2.1 pc = .ok (.tableswitch dflt lo hi offs, len)) (h : x.toInt < lo ∨ hi < x.toInt) (ht : (pc : Int) + dflt = (tgt : Int)) (k : zwp d M mc ms Q tgt ls st uc us m) : zwp d M mc ms Q pc ls (.int x :: st) uc us m := by
  intro p l e R s mid args below meth c F E X H locs lr hP hlo hls
  have hx := X.1
  have hb := X.2.1
  exact lv_tableOut hx hb hd h ht (k p l e R s mid args below meth c F E X H locs lr hP hlo hls)
theorem zr_tableIn {dflt lo hi : Int} {offs : Array Int} {len : Nat} {x : Int32} {off : Int} {tgt : Nat} (hd : decode M.2.2.1 pc = .ok (.tableswitch dflt lo hi offs, len)) (h1 : ¬ x.toInt < lo) (h2 : ¬ hi < x.toInt) (ho : offs[(x.toInt - lo).toNat]? = some off) (ht : (pc : Int) + off = (tgt : Int)) (k : zwp d M mc ms Q tgt ls st uc us m) : zwp d M mc ms Q pc ls (.int x :: st) uc us m := by
  intro p l e R s mid args below meth c F E X H locs lr hP hlo hls
  have hx := X.1
  have hb := X.2.1
  exact lv_tableIn hx hb hd h1 h2 ho ht (k p l e R s mid args below meth c F E X H locs lr hP hlo hls)
theorem zr_ldc {idx : Nat} {v : Int32} (hd : decode M.2.2.1 pc = .ok (.ldc idx, 2)) (hc : Cond.constant (zcn M.1) idx v ∈ zW) (k : zwp d M mc ms Q (pc + 2) ls (.int v :: st) uc us m) : zwp d M mc ms Q pc ls st uc us m := by
  intro p l e R s mid args below meth c F E X H locs lr hP hlo hls
  have hx := X.1
  have hb := X.2.1
  exact lv_ldc hx hb X.2.2.2.1 (X.2.2.2.2.1 _ hc) hd (k p l e R s mid args below meth c F E X H locs lr hP hlo hls)
theorem zr_ldcf {idx : Nat} {v : UInt32} (hd : decode M.2.2.1 pc = .ok (.ldc idx, 2)) (hc : Cond.constantFloat (zcn M.1) idx v ∈ zW) (k : zwp d M mc ms Q (pc + 2) ls (.float v :: st) uc us m) : zwp d M mc ms Q pc ls st uc us m := by
  intro p l e R s mid args below meth c F E X H locs lr hP hlo hls
  have hx := X.1
  have hb := X.2.1
  exact lv_ldcf hx hb X.2.2.2.1 (X.2.2.2.2.1 _ hc) hd (k p l e R s mid args below meth c F E X H locs lr hP hlo hls)
theorem zr_ldc2 {idx : Nat} {v : Int64} (hd : decode M.2.2.1 pc = .ok (.ldc2_w idx, 3)) (hc : Cond.constantLong (zcn M.1) idx v ∈ zW) (k : zwp d M mc ms Q (pc + 3) ls (.long v :: st) uc us m) : zwp d M mc ms Q pc ls st uc us m := by
  intro p l e R s mid args below meth c F E X H locs lr hP hlo hls
  have hx := X.1
  have hb := X.2.1
  exact lv_ldc2 hx hb X.2.2.2.1 (X.2.2.2.2.1 _ hc) hd (k p l e R s mid args below meth c F E X H locs lr hP hlo hls)
theorem zr_ldc2d {idx : Nat} {v : UInt64} (hd : decode M.2.2.1 pc = .ok (.ldc2_w idx, 3)) (hc : Cond.constantDouble (zcn M.1) idx v ∈ zW) (k : zwp d M mc ms Q (pc + 3) ls (.double v :: st) uc us m) : zwp d M mc ms Q pc ls st uc us m := by
  intro p l e R s mid args below meth c F E X H locs lr hP hlo hls
  have hx := X.1
  have hb := X.2.1
  exact lv_ldc2d hx hb X.2.2.2.1 (X.2.2.2.2.1 _ hc) hd (k p l e R s mid args below meth c F E X H locs lr hP hlo hls)
theorem zr_ret {i : Instr} {v : Value} (hd : decode M.2.2.1 pc = .ok (i, 1)) (hr : zRet M i v) (hst : ∀ E, st.map (ztr E) = zrs M E v) (h1 : uc ≤ mc) (h2 : us ≤ ms) (hq : Q v m) : zwp d M mc ms Q pc ls st uc us m := by
  intro p l e R s mid args below meth c F E X H locs lr hP hlo hls
  have hx := X.1
  have hb := X.2.1
  rw [hst E]
  exact X.2.2.2.2.2.2.2.2 H locs lr pc uc us i v m hr hd h1 h2 hP hlo hq
theorem zr_ireturn {x : Int32} (hd : decode M.2.2.1 pc = .ok (.ireturn, 1)) (hr : M.2.2.2.2.2 = some .int) (h1 : uc ≤ mc) (h2 : us ≤ ms) (hq : Q (.int x) m) : zwp d M mc ms Q pc ls [.int x] uc us m :=
  zr_ret hd (Or.inr (Or.inl ⟨hr, rfl, x, rfl⟩)) (fun E => by unfold zrs; rw [hr]; rfl) h1 h2 hq
theorem zr_zreturn {x : Int32} (hd : decode M.2.2.1 pc = .ok (.ireturn, 1)) (hr : M.2.2.2.2.2 = some .boolean) (hx : x = 0 ∨ x = 1) (h1 : uc ≤ mc) (h2 : us ≤ ms) (hq : Q (.int x) m) : zwp d M mc ms Q pc ls [.int x] uc us m :=
  zr_ret hd (Or.inr (Or.inr (Or.inl ⟨hr, rfl, hx.imp (congrArg Value.int) (congrArg Value.int)⟩))) (fun E => by unfold zrs; rw [hr]; rfl) h1 h2 hq
theorem zr_lreturn {x : Int64} (hd : decode M.2.2.1 pc = .ok (.lreturn, 1)) (hr : M.2.2.2.2.2 = some .long) (h1 : uc ≤ mc) (h2 : us ≤ ms) (hq : Q (.long x) m) : zwp d M mc ms Q pc ls [.long x] uc us m :=
  zr_ret hd (Or.inr (Or.inr (Or.inr (Or.inl ⟨hr, rfl, x, rfl⟩)))) (fun E => by unfold zrs; rw [hr]; rfl) h1 h2 hq
theorem zr_areturn {x : Nat} {n : String} (hd : decode M.2.2.1 pc = .ok (.areturn, 1)) (hr : M.2.2.2.2.2 = some (.object n)) (h1 : uc ≤ mc) (h2 : us ≤ ms) (hq : Q (.ref x) m) : zwp d M mc ms Q pc ls [.ref x] uc us m :=
  zr_ret hd (Or.inr (Or.inr (Or.inr (Or.inr ⟨⟨n, hr⟩, rfl, x, rfl⟩)))) (fun E => by unfold zrs; rw [hr]; rfl) h1 h2 hq
theorem zr_return (hd : decode M.2.2.1 pc = .ok (.return_, 1)) (hr : M.2.2.2.2.2 = none) (h1 : uc ≤ mc) (h2 : us ≤ ms) (hq : Q .null m) : zwp d M mc ms Q pc ls [] uc us m :=
  zr_ret hd (Or.inl ⟨hr, rfl, rfl⟩) (fun E => by unfold zrs; rw [hr]; rfl) h1 h2 hq
theorem zr_top {a b : Value} (h : a = b) (k : zwp d M mc ms Q pc ls (b :: st) uc us m) : zwp d M mc ms Q pc ls (a :: st) uc us m := h ▸ k
theorem zr_ls {ls' : List Value} (h : ls = ls') (k : zwp d M mc ms Q pc ls' st uc us m) : zwp d M mc ms Q pc ls st uc us m := h ▸ k
theorem zr_mono {Q' : Value → zM → Prop} (h : ∀ v m', Q v m' → Q' v m') (k : zwp d M mc ms Q pc ls st uc us m) : zwp d M mc ms Q' pc ls st uc us m := by
  intro p l e R s mid args below meth c F E X
  exact k p l e R s mid args below meth c F E ⟨X.1, X.2.1, X.2.2.1, X.2.2.2.1, X.2.2.2.2.1, X.2.2.2.2.2.1, X.2.2.2.2.2.2.1, X.2.2.2.2.2.2.2.1, fun H locs lr pc uc us i v m' h1 h2 h3 h4 h5 h6 h7 => X.2.2.2.2.2.2.2.2 H locs lr pc uc us i v m' h1 h2 h3 h4 h5 h6 (h v m' h7)⟩
end
end
section
/-! ===== the heap: fields, arrays, new cells ===== -/
def zct (ci : Nat) : Nat → FieldType := match ci with
  | 0 => tyX0
  | 1 => tyX1
  | 2 => tyX2
  | 3 => tyX3
  | 4 => tyX4
  | 5 => tyX5
  | 6 => tyX6
  | 7 => tyX7
  | 8 => tyX8
  | _ => tyX9
theorem z10 {P : Nat → Prop} (h0 : P 0) (h1 : P 1) (h2 : P 2) (h3 : P 3) (h4 : P 4) (h5 : P 5) (h6 : P 6) (h7 : P 7) (h8 : P 8) (h9 : P 9) : ∀ ci, ci < 10 → P ci := by
  intro ci h
  match ci, h with
  | 0, _ => exact h0
  | 1, _ => exact h1
  | 2, _ => exact h2
  | 3, _ => exact h3
  | 4, _ => exact h4
  | 5, _ => exact h5
  | 6, _ => exact h6
  | 7, _ => exact h7
  | 8, _ => exact h8
  | 9, _ => exact h9
theorem zcl_at : ∀ ci, ci < 10 → vwCl[ci]? = some (zcl ci) := z10 rfl rfl rfl rfl rfl rfl rfl rfl rfl rfl
theorem zct_ok : ∀ ci, ci < 10 → ∀ k, k < (zcl ci).2.2 → parseFieldDescriptor ((zcl ci).2.1 k).2.2.1 = some (zct ci k) := z10 tyX0_ok tyX1_ok tyX2_ok tyX3_ok tyX4_ok tyX5_ok tyX6_ok tyX7_ok tyX8_ok tyX9_ok
theorem zct_nm : ∀ ci, ci < 10 → ∀ a, a < (zcl ci).2.2 → ∀ b, b < (zcl ci).2.2 → a ≠ b → ((zcl ci).2.1 a).2.1 ≠ ((zcl ci).2.1 b).2.1 := z10 nmX0 nmX1 nmX2 nmX3 nmX4 nmX5 nmX6 nmX7 nmX8 nmX9
def zd0 (t : Nat) : Value := if t = 0 then .int 0 else if t = 1 then .null else if t = 2 then .long 0 else .float 0
theorem zct_df : ∀ ci, ci < 10 → ∀ k, k < (zcl ci).2.2 → defaultValue (zct ci k) = zd0 (zft ci k) := by decide +kernel
theorem zlay_in : ∀ ci, ci < 10 → ∀ w ∈ u_ws (zcl ci).1 (zcl ci).2.1 (zcl ci).2.2, w ∈ zW := by decide +kernel
theorem zcl_nm : ∀ ci, ci < 10 → (zcl ci).1 = zcn ci := z10 rfl rfl rfl rfl rfl rfl rfl rfl rfl rfl
/-- a field as an instruction names it: class and place, its type, whether it is final -/
def zFd (own idx ci k : Nat) (ty : FieldType) (fin : Bool) : Prop :=
  ci < 10 ∧ k < (zcl ci).2.2 ∧ Cond.fieldLink (zcn own) idx ((zcl ci).2.1 k).1 ((zcl ci).2.1 k).2.1 ((zcl ci).2.1 k).2.2.1 ∈ zW ∧ parseFieldDescriptor ((zcl ci).2.1 k).2.2.1 = some ty ∧ ((zcl ci).2.1 k).2.2.2 = fin ∧ ((zcl ci).2.1 k).1 = (zcl ci).1
theorem zad_ne {E : zE} {a b : Nat} (ha : 2 ≤ a) (hb : 2 ≤ b) (h : a ≠ b) : zad E a ≠ zad E b := by
  unfold zad
  rw [if_neg (by omega), if_neg (by omega)]
  omega
theorem zad_ge {E : zE} {a : Nat} (ha : 2 ≤ a) : E.2.1 ≤ zad E a := by
  unfold zad
  rw [if_neg (by omega)]
  omega
theorem zAt.kept {E : zE} {m m' : zM} {a : Nat} {H H' : Heap} (h : zAt E m a H) (hH : H'[zad E a]? = H[zad E a]?) (hv : ∀ k, zvl E m' a k = zvl E m a k) : zAt E m' a H' := by
  have e : zvl E m' a = zvl E m a := funext hv
  unfold zAt at h ⊢
  rw [e]
  split
  · rename_i hk
    rw [if_pos hk] at h
    exact h.kept hH
  · rename_i hk
    rw [if_neg hk] at h
    exact hH.trans h
/-- the script's row is the same -/
def zS1 (m m' : zM) : Prop := zI m' 1 = zI m 1 ∧ zR m' 1 0 = zR m 1 0
theorem zS1_I {m : zM} {a k : Nat} {v : Int32} (ha : 2 ≤ a) : zS1 m (zsI m a k v) := ⟨funext fun j => by simp only [zI, zsI, zu]; rw [if_neg (by omega)], rfl⟩
theorem zS1_R {m : zM} {a k v : Nat} (ha : 2 ≤ a) : zS1 m (zsR m a k v) := ⟨rfl, by simp only [zR, zsR, zu]; rw [if_neg (by omega)]⟩
theorem zS1_L {m : zM} {a k : Nat} {v : Int64} : zS1 m (zsL m a k v) := ⟨rfl, rfl⟩
theorem zS1_F {m : zM} {a k : Nat} {v : UInt32} : zS1 m (zsF m a k v) := ⟨rfl, rfl⟩
theorem zPic.put {E : zE} {m m' : zM} {s : State} {H H' : Heap} {a : Nat} (hP : zPic E m s H) (ha : 2 ≤ a) (hz : zn m' = zn m) (h1s : zS1 m m') (hs : H'.size = H.size) (ho : ∀ q : Nat, q ≠ zad E a → H'[q]? = H[q]?)
    (hv : ∀ a', a' ≠ a → ∀ k, zvl E m' a' k = zvl E m a' k) (hat : zAt E m' a H') : zPic E m' s H' := by
  obtain ⟨h1, h2, h3, h4, h5⟩ := hP
  refine ⟨by rw [hz]; exact h1, by rw [hs, hz]; exact h2, h3, ?_, fun a' h6 h7 => ?_⟩
  · rw [h1s.1, h1s.2]
    refine va_X.kept h4 (ho _ ?_)
    have := zad_ge (E := E) ha
    omega
  · by_cases e : a' = a
    · rw [e]; exact hat
    · exact (h5 a' h6 (by rw [← hz]; exact h7)).kept (ho _ (zad_ne h6 ha e)) (hv a' e)
theorem zvl_I {E : zE} {m : zM} {a k : Nat} {v : Int32} : ∀ a', a' ≠ a → ∀ j, zvl E (zsI m a k v) a' j = zvl E m a' j := by
  intro a' h j
  simp only [zvl, zvt, zI, zR, zL, zF, zsI, zu, h, false_and, if_false]
theorem zvl_R {E : zE} {m : zM} {a k : Nat} {v : Nat} : ∀ a', a' ≠ a → ∀ j, zvl E (zsR m a k v) a' j = zvl E m a' j := by
  intro a' h j
  simp only [zvl, zvt, zI, zR, zL, zF, zsR, zu, h, false_and, if_false]
theorem zvl_L {E : zE} {m : zM} {a k : Nat} {v : Int64} : ∀ a', a' ≠ a → ∀ j, zvl E (zsL m a k v) a' j = zvl E m a' j := by
  intro a' h j
  simp only [zvl, zvt, zI, zR, zL, zF, zsL, zu, h, false_and, if_false]
theorem zvl_F {E : zE} {m : zM} {a k : Nat} {v : UInt32} : ∀ a', a' ≠ a → ∀ j, zvl E (zsF m a k v) a' j = zvl E m a' j := by
  intro a' h j
  simp only [zvl, zvt, zI, zR, zL, zF, zsF, zu, h, false_and, if_false]
theorem zuI {E : zE} {m : zM} {a k : Nat} {v : Int32} (ht : zft (zLay a).1 k = 0) (j : Nat) : updV (zvl E m a) k (.int v) j = zvl E (zsI m a k v) a j := by
  unfold updV
  by_cases e : j = k
  · subst e
    simp [zvl, zvt, zI, zsI, zu, ht]
  · simp only [zvl, zvt, zI, zR, zL, zF, zsI, zu, e, and_false, if_false]
theorem zuR {E : zE} {m : zM} {a k : Nat} {v : Nat} (ht : zft (zLay a).1 k = 1) (h0 : v ≠ 0) (j : Nat) : updV (zvl E m a) k (.ref (zad E v)) j = zvl E (zsR m a k v) a j := by
  unfold updV
  by_cases e : j = k
  · subst e
    simp [zvl, zvt, zR, zsR, zu, ht, zrf, h0]
  · simp only [zvl, zvt, zI, zR, zL, zF, zsR, zu, e, and_false, if_false]
theorem zuL {E : zE} {m : zM} {a k : Nat} {v : Int64} (ht : zft (zLay a).1 k = 2) (j : Nat) : updV (zvl E m a) k (.long v) j = zvl E (zsL m a k v) a j := by
  unfold updV
  by_cases e : j = k
  · subst e
    simp [zvl, zvt, zL, zsL, zu, ht]
  · simp only [zvl, zvt, zI, zR, zL, zF, zsL, zu, e, and_false, if_false]
theorem zuF {E : zE} {m : zM} {a k : Nat} {v : UInt32} (ht : zft (zLay a).1 k = 3) (j : Nat) : updV (zvl E m a) k (.float v) j = zvl E (zsF m a k v) a j := by
  unfold updV
  by_cases e : j = k
  · subst e
    simp [zvl, zvt, zF, zsF, zu, ht]
  · simp only [zvl, zvt, zI, zR, zL, zF, zsF, zu, e, and_false, if_false]
section
variable {d : Nat} {M : zMeth} {mc ms : Nat} {Q : Value → zM → Prop} {pc : Nat} {ls st : List Value} {uc us : Nat} {m : zM}
theorem zAt.ob {E : zE} {m : zM} {a ci : Nat} {H : Heap} (h : zAt E m a H) (hk : (zLay a).1 = ci) (hc : ci < 10) : t_OB (zad E a) (E.2.2.1.1 ci) (zcl ci).2.2 (E.2.2.1.2 ci) H (zvl E m a) := by
  unfold zAt at h
  rw [hk, if_pos hc] at h
  exact h
theorem zAt.ar {E : zE} {m : zM} {a kd n : Nat} {H : Heap} (h : zAt E m a H) (hk : zLay a = (kd, n)) (hc : 10 ≤ kd) : H[zad E a]? = some (arrV (E.2.2.2 kd) n (zvl E m a)) := by
  unfold zAt at h
  rw [hk, if_neg (by show ¬ kd < 10; omega)] at h
  exact h
theorem zr_get {idx ci k a : Nat} {ty : FieldType} {fin : Bool} {v : Value} (hd : decode M.2.2.1 pc = .ok (.getfield idx, 3)) (hf : zFd M.1 idx ci k ty fin) (ho : zOb m a ci) (hv : ∀ E, zvl E m a k = ztr E v) (kk : zwp d M mc ms Q (pc + 3) ls (v :: st) uc us m) : zwp d M mc ms Q pc ls (.ref a :: st) uc us m := by
  intro p l e R s mid args below meth c F E X H locs lr hP hlo hls
  have hx := X.1
  have hb := X.2.1
  have hts := X.2.2.2.2.1
  obtain ⟨f1, f2, f3, -, -, -⟩ := hf
  obtain ⟨cell, q1, q2, q3, q4⟩ := (hP.2.2.2.2 a ho.2.1 ho.2.2).ob ho.1 f1
  obtain ⟨hS, hfc, kC, hkC, hkind⟩ := X.2.2.2.2.2.1.1.1 ci _ (zcl_at ci f1)
  obtain ⟨cf, kf, fi, f, hi, hsl⟩ := hS k f2
  refine W.getf hx hb X.2.2.2.1 (hts _ f3) hi (u_facts hfc hkC (u_lays hts (zlay_in ci f1) f2) hi).1 q1 (by rw [q3]; exact fun h => by cases h) (v := ztr E v) ?_ rfl rfl hd (kk p l e R s mid args below meth c F E X H locs lr hP hlo hls)
  rw [hsl, q4 k f2, hv E]
theorem zr_getI {idx ci k a : Nat} {ty : FieldType} {fin : Bool} (hd : decode M.2.2.1 pc = .ok (.getfield idx, 3)) (hf : zFd M.1 idx ci k ty fin) (ht : zft ci k = 0) (ho : zOb m a ci) (kk : zwp d M mc ms Q (pc + 3) ls (.int (zI m a k) :: st) uc us m) : zwp d M mc ms Q pc ls (.ref a :: st) uc us m :=
  zr_get hd hf ho (fun E => by unfold zvl; rw [ho.1, ht]; rfl) kk
theorem zr_getR {idx ci k a r : Nat} {ty : FieldType} {fin : Bool} (hd : decode M.2.2.1 pc = .ok (.getfield idx, 3)) (hf : zFd M.1 idx ci k ty fin) (ht : zft ci k = 1) (ho : zOb m a ci) (hr : zR m a k = r) (h0 : r ≠ 0) (kk : zwp d M mc ms Q (pc + 3) ls (.ref r :: st) uc us m) : zwp d M mc ms Q pc ls (.ref a :: st) uc us m :=
  zr_get hd hf ho (fun E => by unfold zvl; rw [ho.1, ht]; simp [zvt, zrf, hr, h0, ztr]) kk
theorem zr_getF {idx ci k a : Nat} {ty : FieldType} {fin : Bool} (hd : decode M.2.2.1 pc = .ok (.getfield idx, 3)) (hf : zFd M.1 idx ci k ty fin) (ht : zft ci k = 3) (ho : zOb m a ci) (kk : zwp d M mc ms Q (pc + 3) ls (.float (zF m a k) :: st) uc us m) : zwp d M mc ms Q pc ls (.ref a :: st) uc us m :=
  zr_get hd hf ho (fun E => by unfold zvl; rw [ho.1, ht]; rfl) kk
theorem zr_put {idx ci k a : Nat} {ty : FieldType} {fin : Bool} {v : Value} {m' : zM} (hd : decode M.2.2.1 pc = .ok (.putfield idx, 3)) (hf : zFd M.1 idx ci k ty fin) (hfin : fin = false ∨ (M.2.1 = true ∧ ci = M.1)) (ho : zOb m a ci) (hz : zn m' = zn m) (h1s : zS1 m m')
    (hn : ∀ E, narrow ty (ztr E v) = ztr E v ∧ fits ty (ztr E v) = true) (hv1 : ∀ E a', a' ≠ a → ∀ j, zvl E m' a' j = zvl E m a' j) (hv2 : ∀ E j, updV (zvl E m a) k (ztr E v) j = zvl E m' a j)
    (kk : zwp d M mc ms Q (pc + 3) ls st uc us m') : zwp d M mc ms Q pc ls (v :: .ref a :: st) uc us m := by
  intro p l e R s mid args below meth c F E X H locs lr hP hlo hls
  have hx := X.1
  have hb := X.2.1
  have hts := X.2.2.2.2.1
  have hK := X.2.2.2.2.2.1.1
  obtain ⟨f1, f2, f3, f4, f5, f6⟩ := hf
  have hap := va_apart (own := zcn M.1) hts (zlay_in ci f1) (zct ci) (zct_ok ci f1) (zct_nm ci f1) hK (zcl_at ci f1)
  obtain ⟨cell, q1, q2, q3, q4⟩ := (hP.2.2.2.2 a ho.2.1 ho.2.2).ob ho.1 f1
  obtain ⟨hS, hfc, kC, hkC, hkind⟩ := hK.1 ci _ (zcl_at ci f1)
  obtain ⟨cf, kf, fi, f, hi, hsl⟩ := hS k f2
  have hlay := hts _ (zlay_in ci f1 _ (u_in_lay f2))
  have hst := (u_facts hfc hkC (u_lays hts (zlay_in ci f1) f2) hi).1
  have fin' : ∀ H' : Heap, H'[zad E a]? = some (cell.setSlot f.slot (ztr E v)) → H'.size = H.size → (∀ q, q ≠ zad E a → H'[q]? = H[q]?) → W p l e R s mid args below meth c H' (locs ++ [⟨zad E a, f.slot⟩]) uc us F (F0 mid (pc + 3) lr (st.map (ztr E))) := by
    intro H' e1 e2 e3
    rw [hsl] at e1
    refine kk p l e R s mid args below meth c F E X H' _ lr (hP.put ho.2.1 hz h1s e2 e3 (hv1 E) ?_) (t_lc (free := fun q => E.2.1 ≤ q) hlo (zad_ge ho.2.1)) hls
    unfold zAt
    rw [ho.1, if_pos f1]
    exact t_OB.to (V := updV (zvl E m a) k (ztr E v)) ⟨_, e1, q2, q3, t_set q4 hap f2 _⟩ (fun j _ => hv2 E j)
  cases hfv : fin with
  | false =>
    unfold u_lay at hlay
    rw [hfv] at f5
    rw [if_neg (by rw [f5]; decide)] at hlay
    have h6 := u_store hfc hkC hkind hlay hi f4 (hn E).1 (hn E).2
    exact W.putK hx hb (f := f) ⟨X.2.2.2.1, hts _ f3, ⟨_, _, _, hi⟩, hst⟩ (by rw [q2]; exact h6) q1 q3 (by rw [hsl]; exact k2_hasslot (q4 k f2)) rfl rfl hd fin'
  | true =>
    rcases hfin with h | ⟨hini, hown⟩
    · rw [hfv] at h; cases h
    · unfold u_lay at hlay
      rw [hfv] at f5
      rw [if_pos f5] at hlay
      have hcf : mid.cls = cf := by
        obtain ⟨_, _, c', _, _, _, -, -, hf', -, -, -, hown2, -⟩ := Cond.laysFinal_spec hlay
        have e1 : c' = cf := by have := hi.symm.trans hf'; simp at this; exact this.1.symm
        rw [f6, zcl_nm ci f1, hown] at hown2
        rw [← e1]; exact Option.some.inj (X.2.2.2.1.symm.trans hown2)
      have h6 := u_fits hfc hkC hkind (Or.inr hlay) hi f4 (hn E).1 (hn E).2
      exact W.putFinK hx hb X.2.2.2.1 (hts _ f3) hi hst hcf (X.2.2.2.2.2.2.2.1 hini) (by rw [q2]; exact h6) q1 q3 (by rw [hsl]; exact k2_hasslot (q4 k f2)) rfl rfl hd fin'
theorem zr_putI {idx ci k a : Nat} {v : Int32} (hd : decode M.2.2.1 pc = .ok (.putfield idx, 3)) (hf : zFd M.1 idx ci k .int false) (ht : zft ci k = 0) (ho : zOb m a ci) (kk : zwp d M mc ms Q (pc + 3) ls st uc us (zsI m a k v)) : zwp d M mc ms Q pc ls (.int v :: .ref a :: st) uc us m :=
  zr_put (m' := zsI m a k v) hd hf (Or.inl rfl) ho rfl (zS1_I ho.2.1) (fun E => ⟨rfl, rfl⟩) (fun E => zvl_I) (fun E => zuI (by rw [ho.1]; exact ht)) kk
theorem zr_putZ {idx ci k a : Nat} {v : Int32} (hd : decode M.2.2.1 pc = .ok (.putfield idx, 3)) (hf : zFd M.1 idx ci k .boolean false) (ht : zft ci k = 0) (ho : zOb m a ci) (hv : v = 0 ∨ v = 1) (kk : zwp d M mc ms Q (pc + 3) ls st uc us (zsI m a k v)) : zwp d M mc ms Q pc ls (.int v :: .ref a :: st) uc us m :=
  zr_put (m' := zsI m a k v) hd hf (Or.inl rfl) ho rfl (zS1_I ho.2.1) (fun E => by rcases hv with rfl | rfl <;> exact ⟨rfl, rfl⟩) (fun E => zvl_I) (fun E => zuI (by rw [ho.1]; exact ht)) kk
theorem zr_putF {idx ci k a : Nat} {v : UInt32} (hd : decode M.2.2.1 pc = .ok (.putfield idx, 3)) (hf : zFd M.1 idx ci k .float false) (ht : zft ci k = 3) (ho : zOb m a ci) (kk : zwp d M mc ms Q (pc + 3) ls st uc us (zsF m a k v)) : zwp d M mc ms Q pc ls (.float v :: .ref a :: st) uc us m :=
  zr_put (m' := zsF m a k v) hd hf (Or.inl rfl) ho rfl zS1_F (fun E => ⟨rfl, rfl⟩) (fun E => zvl_F) (fun E => zuF (by rw [ho.1]; exact ht)) kk
theorem zr_putR {idx ci k a v : Nat} {ty : FieldType} {fin : Bool} (hd : decode M.2.2.1 pc = .ok (.putfield idx, 3)) (hf : zFd M.1 idx ci k ty fin) (hfin : fin = false ∨ (M.2.1 = true ∧ ci = M.1)) (hty : ∀ q, narrow ty (.ref q) = .ref q ∧ fits ty (.ref q) = true) (ht : zft ci k = 1) (ho : zOb m a ci) (h0 : v ≠ 0) (kk : zwp d M mc ms Q (pc + 3) ls st uc us (zsR m a k v)) : zwp d M mc ms Q pc ls (.ref v :: .ref a :: st) uc us m :=
  zr_put (m' := zsR m a k v) hd hf hfin ho rfl (zS1_R ho.2.1) (fun E => hty _) (fun E => zvl_R) (fun E => zuR (by rw [ho.1]; exact ht) h0) kk
/-! arrays -/
def zti (kd : Nat) : Nat := kd - 10
theorem zty_at {cy : Nat → ClassId} : ∀ kd, 10 ≤ kd → kd < 19 → (ztys cy)[zti kd]? = some (cy kd, zaty kd) := by
  intro kd h1 h2
  have : kd = 10 ∨ kd = 11 ∨ kd = 12 ∨ kd = 13 ∨ kd = 14 ∨ kd = 15 ∨ kd = 16 ∨ kd = 17 ∨ kd = 18 := by omega
  rcases this with rfl | rfl | rfl | rfl | rfl | rfl | rfl | rfl | rfl <;> rfl
theorem zr_iaload {a n : Nat} {j : Int32} (hd : decode M.2.2.1 pc = .ok (.iaload, 1)) (ha : zAr m a 12 n) (hj : vp_in j n) (kk : zwp d M mc ms Q (pc + 1) ls (.int (zI m a j.toNatClampNeg) :: st) uc us m) : zwp d M mc ms Q pc ls (.int j :: .ref a :: st) uc us m := by
  intro p l e R s mid args below meth c F E X H locs lr hP hlo hls
  have hlt : j.toNatClampNeg < n := Nat.not_le.mp fun q => hj (Or.inr q)
  exact W.iald (v := .int (zI m a j.toNatClampNeg)) X.1 X.2.1 ((hP.2.2.2.2 a ha.2.1 ha.2.2).ar ha.1 (by decide)) ((X.2.2.2.2.2.1.1.2 (zti 12) _ (zty_at 12 (by decide) (by decide))).1 n _) (fun q => by cases q) (by rw [arrV_size]; exact hj) (by rw [arrV_read _ _ hlt, zvl, ha.1]; rfl) rfl rfl hd (kk p l e R s mid args below meth c F E X H locs lr hP hlo hls)
theorem zr_baload {a n : Nat} {j : Int32} (hd : decode M.2.2.1 pc = .ok (.baload, 1)) (ha : zAr m a 10 n) (hj : vp_in j n) (kk : zwp d M mc ms Q (pc + 1) ls (.int (zI m a j.toNatClampNeg) :: st) uc us m) : zwp d M mc ms Q pc ls (.int j :: .ref a :: st) uc us m := by
  intro p l e R s mid args below meth c F E X H locs lr hP hlo hls
  have hlt : j.toNatClampNeg < n := Nat.not_le.mp fun q => hj (Or.inr q)
  exact W.bald (v := .int (zI m a j.toNatClampNeg)) X.1 X.2.1 ((hP.2.2.2.2 a ha.2.1 ha.2.2).ar ha.1 (by decide)) ((X.2.2.2.2.2.1.1.2 (zti 10) _ (zty_at 10 (by decide) (by decide))).1 n _) (fun q => by cases q) (by rw [arrV_size]; exact hj) (by rw [arrV_read _ _ hlt, zvl, ha.1]; rfl) rfl rfl hd (kk p l e R s mid args below meth c F E X H locs lr hP hlo hls)
theorem zr_zaload {a n : Nat} {j : Int32} (hd : decode M.2.2.1 pc = .ok (.baload, 1)) (ha : zAr m a 14 n) (hj : vp_in j n) (kk : zwp d M mc ms Q (pc + 1) ls (.int (zI m a j.toNatClampNeg) :: st) uc us m) : zwp d M mc ms Q pc ls (.int j :: .ref a :: st) uc us m := by
  intro p l e R s mid args below meth c F E X H locs lr hP hlo hls
  have hlt : j.toNatClampNeg < n := Nat.not_le.mp fun q => hj (Or.inr q)
  exact W.zald (v := .int (zI m a j.toNatClampNeg)) X.1 X.2.1 ((hP.2.2.2.2 a ha.2.1 ha.2.2).ar ha.1 (by decide)) ((X.2.2.2.2.2.1.1.2 (zti 14) _ (zty_at 14 (by decide) (by decide))).1 n _) (fun q => by cases q) (by rw [arrV_size]; exact hj) (by rw [arrV_read _ _ hlt, zvl, ha.1]; rfl) rfl rfl hd (kk p l e R s mid args below meth c F E X H locs lr hP hlo hls)
theorem zr_laload {a n : Nat} {j : Int32} (hd : decode M.2.2.1 pc = .ok (.laload, 1)) (ha : zAr m a 13 n) (hj : vp_in j n) (kk : zwp d M mc ms Q (pc + 1) ls (.long (zL m a j.toNatClampNeg) :: st) uc us m) : zwp d M mc ms Q pc ls (.int j :: .ref a :: st) uc us m := by
  intro p l e R s mid args below meth c F E X H locs lr hP hlo hls
  have hlt : j.toNatClampNeg < n := Nat.not_le.mp fun q => hj (Or.inr q)
  exact W.lald (v := .long (zL m a j.toNatClampNeg)) X.1 X.2.1 ((hP.2.2.2.2 a ha.2.1 ha.2.2).ar ha.1 (by decide)) ((X.2.2.2.2.2.1.1.2 (zti 13) _ (zty_at 13 (by decide) (by decide))).1 n _) (fun q => by cases q) (by rw [arrV_size]; exact hj) (by rw [arrV_read _ _ hlt, zvl, ha.1]; rfl) rfl rfl hd (kk p l e R s mid args below meth c F E X H locs lr hP hlo hls)
theorem zr_faload {a n : Nat} {j : Int32} (hd : decode M.2.2.1 pc = .ok (.faload, 1)) (ha : zAr m a 11 n) (hj : vp_in j n) (kk : zwp d M mc ms Q (pc + 1) ls (.float (zF m a j.toNatClampNeg) :: st) uc us m) : zwp d M mc ms Q pc ls (.int j :: .ref a :: st) uc us m := by
  intro p l e R s mid args below meth c F E X H locs lr hP hlo hls
  have hlt : j.toNatClampNeg < n := Nat.not_le.mp fun q => hj (Or.inr q)
  exact W.fald (v := .float (zF m a j.toNatClampNeg)) X.1 X.2.1 ((hP.2.2.2.2 a ha.2.1 ha.2.2).ar ha.1 (by decide)) ((X.2.2.2.2.2.1.1.2 (zti 11) _ (zty_at 11 (by decide) (by decide))).1 n _) (fun q => by cases q) (by rw [arrV_size]; exact hj) (by rw [arrV_read _ _ hlt, zvl, ha.1]; rfl) rfl rfl hd (kk p l e R s mid args below meth c F E X H locs lr hP hlo hls)
theorem zr_aaload {a kd n r : Nat} {j : Int32} (hd : decode M.2.2.1 pc = .ok (.aaload, 1)) (ha : zAr m a kd n) (h15 : 15 ≤ kd) (h19 : kd < 19) (hj : vp_in j n) (hr : zR m a j.toNatClampNeg = r) (h0 : r ≠ 0) (kk : zwp d M mc ms Q (pc + 1) ls (.ref r :: st) uc us m) : zwp d M mc ms Q pc ls (.int j :: .ref a :: st) uc us m := by
  intro p l e R s mid args below meth c F E X H locs lr hP hlo hls
  have hlt : j.toNatClampNeg < n := Nat.not_le.mp fun q => hj (Or.inr q)
  refine W.aald (ty := zaty kd) (v := .ref (zad E r)) X.1 X.2.1 ((hP.2.2.2.2 a ha.2.1 ha.2.2).ar ha.1 (by omega)) ((X.2.2.2.2.2.1.1.2 (zti kd) _ (zty_at kd (by omega) h19)).1 n _) ?_ (fun q => by cases q) (by rw [arrV_size]; exact hj) ?_ rfl rfl hd (kk p l e R s mid args below meth c F E X H locs lr hP hlo hls)
  · have : kd = 15 ∨ kd = 16 ∨ kd = 17 ∨ kd = 18 := by omega
    rcases this with rfl | rfl | rfl | rfl <;> rfl
  · have hf : zft kd j.toNatClampNeg = 1 := by
      have : kd = 15 ∨ kd = 16 ∨ kd = 17 ∨ kd = 18 := by omega
      rcases this with rfl | rfl | rfl | rfl <;> rfl
    rw [arrV_read _ _ hlt, zvl, ha.1]
    simp [hf, zvt, zrf, hr, h0]
theorem zar_put {E : zE} {m m' : zM} {s : State} {H H' : Heap} {a kd n k : Nat} {v : Value} (hP : zPic E m s H) (ha : zAr m a kd n) (h10 : 10 ≤ kd) (hz : zn m' = zn m) (h1s : zS1 m m') (e1 : H'[zad E a]? = some ((arrV (E.2.2.2 kd) n (zvl E m a)).setSlot k v)) (e2 : H'.size = H.size) (e3 : ∀ q : Nat, q ≠ zad E a → H'[q]? = H[q]?)
    (hv1 : ∀ a', a' ≠ a → ∀ j, zvl E m' a' j = zvl E m a' j) (hv2 : ∀ j, updV (zvl E m a) k v j = zvl E m' a j) : zPic E m' s H' := by
  refine hP.put ha.2.1 hz h1s e2 e3 hv1 ?_
  unfold zAt
  rw [ha.1, if_neg (by show ¬ kd < 10; omega), e1, arrV_store]
  exact congrArg (fun f => some (arrV (E.2.2.2 kd) n f)) (funext hv2)
theorem zr_iastore {a n : Nat} {j v : Int32} (hd : decode M.2.2.1 pc = .ok (.iastore, 1)) (ha : zAr m a 12 n) (hj : vp_in j n) (kk : zwp d M mc ms Q (pc + 1) ls st uc us (zsI m a j.toNatClampNeg v)) : zwp d M mc ms Q pc ls (.int v :: .int j :: .ref a :: st) uc us m := by
  intro p l e R s mid args below meth c F E X H locs lr hP hlo hls
  exact W.iast X.1 X.2.1 ((hP.2.2.2.2 a ha.2.1 ha.2.2).ar ha.1 (by decide)) ((X.2.2.2.2.2.1.1.2 (zti 12) _ (zty_at 12 (by decide) (by decide))).1 n _) (fun q => by cases q) (by rw [arrV_size]; exact hj) rfl rfl hd (fun H' e1 e2 e3 => kk p l e R s mid args below meth c F E X H' _ lr (zar_put hP ha (by decide) rfl (zS1_I ha.2.1) e1 e2 e3 zvl_I (zuI (by rw [ha.1]; rfl))) (t_lc (free := fun q => E.2.1 ≤ q) hlo (zad_ge ha.2.1)) hls)
theorem zr_lastore {a n : Nat} {j : Int32} {v : Int64} (hd : decode M.2.2.1 pc = .ok (.lastore, 1)) (ha : zAr m a 13 n) (hj : vp_in j n) (kk : zwp d M mc ms Q (pc + 1) ls st uc us (zsL m a j.toNatClampNeg v)) : zwp d M mc ms Q pc ls (.long v :: .int j :: .ref a :: st) uc us m := by
  intro p l e R s mid args below meth c F E X H locs lr hP hlo hls
  exact W.last X.1 X.2.1 ((hP.2.2.2.2 a ha.2.1 ha.2.2).ar ha.1 (by decide)) ((X.2.2.2.2.2.1.1.2 (zti 13) _ (zty_at 13 (by decide) (by decide))).1 n _) (fun q => by cases q) (by rw [arrV_size]; exact hj) rfl rfl hd (fun H' e1 e2 e3 => kk p l e R s mid args below meth c F E X H' _ lr (zar_put hP ha (by decide) rfl zS1_L e1 e2 e3 zvl_L (zuL (by rw [ha.1]; rfl))) (t_lc (free := fun q => E.2.1 ≤ q) hlo (zad_ge ha.2.1)) hls)
theorem zr_fastore {a n : Nat} {j : Int32} {v : UInt32} (hd : decode M.2.2.1 pc = .ok (.fastore, 1)) (ha : zAr m a 11 n) (hj : vp_in j n) (kk : zwp d M mc ms Q (pc + 1) ls st uc us (zsF m a j.toNatClampNeg v)) : zwp d M mc ms Q pc ls (.float v :: .int j :: .ref a :: st) uc us m := by
  intro p l e R s mid args below meth c F E X H locs lr hP hlo hls
  exact W.fast X.1 X.2.1 ((hP.2.2.2.2 a ha.2.1 ha.2.2).ar ha.1 (by decide)) ((X.2.2.2.2.2.1.1.2 (zti 11) _ (zty_at 11 (by decide) (by decide))).1 n _) (fun q => by cases q) (by rw [arrV_size]; exact hj) rfl rfl hd (fun H' e1 e2 e3 => kk p l e R s mid args below meth c F E X H' _ lr (zar_put hP ha (by decide) rfl zS1_F e1 e2 e3 zvl_F (zuF (by rw [ha.1]; rfl))) (t_lc (free := fun q => E.2.1 ≤ q) hlo (zad_ge ha.2.1)) hls)
theorem zr_bastore {a n : Nat} {j v : Int32} (hd : decode M.2.2.1 pc = .ok (.bastore, 1)) (ha : zAr m a 10 n) (hj : vp_in j n) (hv : narrow .byte (.int v) = .int v) (kk : zwp d M mc ms Q (pc + 1) ls st uc us (zsI m a j.toNatClampNeg v)) : zwp d M mc ms Q pc ls (.int v :: .int j :: .ref a :: st) uc us m := by
  intro p l e R s mid args below meth c F E X H locs lr hP hlo hls
  exact W.bast X.1 X.2.1 ((hP.2.2.2.2 a ha.2.1 ha.2.2).ar ha.1 (by decide)) ((X.2.2.2.2.2.1.1.2 (zti 10) _ (zty_at 10 (by decide) (by decide))).1 n _) (fun q => by cases q) (by rw [arrV_size]; exact hj) rfl rfl hd (fun H' e1 e2 e3 => kk p l e R s mid args below meth c F E X H' _ lr (zar_put hP ha (by decide) rfl (zS1_I ha.2.1) (by rw [hv] at e1; exact e1) e2 e3 zvl_I (zuI (by rw [ha.1]; rfl))) (t_lc (free := fun q => E.2.1 ≤ q) hlo (zad_ge ha.2.1)) hls)
theorem zr_zastore {a n : Nat} {j v : Int32} (hd : decode M.2.2.1 pc = .ok (.bastore, 1)) (ha : zAr m a 14 n) (hj : vp_in j n) (hv : v = 0 ∨ v = 1) (kk : zwp d M mc ms Q (pc + 1) ls st uc us (zsI m a j.toNatClampNeg v)) : zwp d M mc ms Q pc ls (.int v :: .int j :: .ref a :: st) uc us m := by
  intro p l e R s mid args below meth c F E X H locs lr hP hlo hls
  have hv : narrow .boolean (.int v) = .int v := by rcases hv with rfl | rfl <;> rfl
  exact W.zast X.1 X.2.1 ((hP.2.2.2.2 a ha.2.1 ha.2.2).ar ha.1 (by decide)) ((X.2.2.2.2.2.1.1.2 (zti 14) _ (zty_at 14 (by decide) (by decide))).1 n _) (fun q => by cases q) (by rw [arrV_size]; exact hj) rfl rfl hd (fun H' e1 e2 e3 => kk p l e R s mid args below meth c F E X H' _ lr (zar_put hP ha (by decide) rfl (zS1_I ha.2.1) (by rw [hv] at e1; exact e1) e2 e3 zvl_I (zuI (by rw [ha.1]; rfl))) (t_lc (free := fun q => E.2.1 ≤ q) hlo (zad_ge ha.2.1)) hls)
/-- the class of what an array of references holds -/
def zcmp (kd : Nat) : Nat := if kd = 15 then 2 else if kd = 16 then 4 else if kd = 17 then 5 else 6
theorem zr_aastore {a kd n v : Nat} {j : Int32} (hd : decode M.2.2.1 pc = .ok (.aastore, 1)) (ha : zAr m a kd n) (h15 : 15 ≤ kd) (h19 : kd < 19) (hj : vp_in j n) (hv : zOb m v (zcmp kd)) (kk : zwp d M mc ms Q (pc + 1) ls st uc us (zsR m a j.toNatClampNeg v)) : zwp d M mc ms Q pc ls (.ref v :: .int j :: .ref a :: st) uc us m := by
  intro p l e R s mid args below meth c F E X H locs lr hP hlo hls
  have hlt : j.toNatClampNeg < n := Nat.not_le.mp fun q => hj (Or.inr q)
  have h0 : ¬ j < 0 := fun q => hj (Or.inl q)
  have hc10 : zcmp kd < 10 := by unfold zcmp; split <;> (try split) <;> (try split) <;> omega
  obtain ⟨cellV, g1, g2, g3, -⟩ := (hP.2.2.2.2 v hv.2.1 hv.2.2).ob hv.1 hc10
  have hcls := (X.2.2.2.2.2.1.1.1 (zcmp kd) _ (zcl_at _ hc10)).2
  have hta : zaty kd = .object (zcl (zcmp kd)).1 := by
    have : kd = 15 ∨ kd = 16 ∨ kd = 17 ∨ kd = 18 := by omega
    rcases this with rfl | rfl | rfl | rfl <;> rfl
  have hRA := (X.2.2.2.2.2.1.1.2 (zti kd) _ (zty_at kd (by omega) h19)).2
  rw [hta] at hRA
  obtain ⟨kA, comp, k1, k2, k3, -⟩ := hRA
  have hcomp : comp = E.2.2.1.1 (zcmp kd) := Option.some.inj (k3.symm.trans hcls.1)
  subst hcomp
  obtain ⟨kC, hkC, -⟩ := hcls.2
  have hft : zft kd j.toNatClampNeg = 1 := by
    have : kd = 15 ∨ kd = 16 ∨ kd = 17 ∨ kd = 18 := by omega
    rcases this with rfl | rfl | rfl | rfl <;> rfl
  exact W.aast X.1 X.2.1 ((hP.2.2.2.2 a ha.2.1 ha.2.2).ar ha.1 (by omega)) (fun q h => by cases h) (fun h => by cases h) k1 k2 rfl hkC ⟨h0, by rw [arrV_size]; exact hlt⟩ g1 (fun q h => by rw [g3] at h; cases h) (by rw [g2]; exact hkC) (by rw [g2]; exact va_assign hcls) rfl rfl hd (fun H' e1 e2 e3 => kk p l e R s mid args below meth c F E X H' _ lr (zar_put hP ha (by omega) rfl (zS1_R ha.2.1) e1 e2 e3 zvl_R (zuR (by rw [ha.1]; exact hft) (by have := hv.2.1; omega))) (t_lc (free := fun q => E.2.1 ≤ q) hlo (zad_ge ha.2.1)) hls)
theorem zr_alen {a kd n : Nat} (hd : decode M.2.2.1 pc = .ok (.arraylength, 1)) (ha : zAr m a kd n) (h10 : 10 ≤ kd) (h19 : kd < 19) (kk : zwp d M mc ms Q (pc + 1) ls (.int (nI n) :: st) uc us m) : zwp d M mc ms Q pc ls (.ref a :: st) uc us m := by
  intro p l e R s mid args below meth c F E X H locs lr hP hlo hls
  exact W.alen (n := nI n) X.1 X.2.1 ((hP.2.2.2.2 a ha.2.1 ha.2.2).ar ha.1 h10) ((X.2.2.2.2.2.1.1.2 (zti kd) _ (zty_at kd h10 h19)).1 n _) (by rw [arrV_size]; rfl) rfl rfl hd (kk p l e R s mid args below meth c F E X H locs lr hP hlo hls)
end
end
section
/-! ===== new cells, the script, calls, a method's contract ===== -/
theorem zvl_nw {E : zE} {m : zM} : ∀ a', a' ≠ zn m → ∀ j, zvl E (znw m) a' j = zvl E m a' j := by
  intro a' h j
  simp only [zvl, zvt, zI, zR, zL, zF, znw, zc, h, if_false]
theorem zvl_n0 {E : zE} {m : zM} (j : Nat) : zvl E (znw m) (zn m) j = zd0 (zft (zLay (zn m)).1 j) := by
  simp [zvl, zvt, zI, zR, zL, zF, znw, zc, zd0, zrf]
theorem zPic.new {E : zE} {m : zM} {s : State} {H H' : Heap} (hP : zPic E m s H) (hs : H'.size = H.size + 1) (ho : ∀ q : Nat, q < H.size → H'[q]? = H[q]?) (hat : zAt E (znw m) (zn m) H') : zPic E (znw m) s H' := by
  obtain ⟨h1, h2, h3, h4, h5⟩ := hP
  have e1 : zI (znw m) 1 = zI m 1 := funext fun j => by simp only [zI, znw, zc]; rw [if_neg (by omega)]
  have e2 : zR (znw m) 1 0 = zR m 1 0 := by simp only [zR, znw, zc]; rw [if_neg (by omega)]
  have e3 : zn (znw m) = zn m + 1 := rfl
  refine ⟨by omega, by omega, h3, ?_, fun a' h6 h7 => ?_⟩
  · rw [e1, e2]
    exact va_X.kept h4 (ho _ (by omega))
  · by_cases e : a' = zn m
    · rw [e]; exact hat
    · refine (h5 a' h6 (by omega)).kept (ho _ ?_) (zvl_nw a' e)
      unfold zad
      rw [if_neg (by omega)]
      omega
theorem zad_n {E : zE} {m : zM} {s : State} {H : Heap} (hP : zPic E m s H) : zad E (zn m) = H.size := by
  obtain ⟨h1, h2, -⟩ := hP
  unfold zad
  rw [if_neg (by omega)]
  omega
def zNew (own idx ci : Nat) : Prop := ci < 10 ∧ Cond.classLink (zcn own) idx (zcl ci).1 ∈ zW ∧ Cond.instantiable (zcl ci).1 (zcl ci).2.2 ∈ zW ∧ Cond.initialized (zcl ci).1 ∈ zW
section
variable {d : Nat} {M : zMeth} {mc ms : Nat} {Q : Value → zM → Prop} {pc : Nat} {ls st : List Value} {uc us : Nat} {m : zM}
theorem zr_new {idx ci : Nat} (hd : decode M.2.2.1 pc = .ok (.new idx, 3)) (hc : zNew M.1 idx ci) (hl : (zLay (zn m)).1 = ci) (h1 : uc + 1 ≤ mc) (h2 : us + (zcl ci).2.2 ≤ ms) (kk : zwp d M mc ms Q (pc + 3) ls (.ref (zn m) :: st) (uc + 1) (us + (zcl ci).2.2) (znw m)) : zwp d M mc ms Q pc ls st uc us m := by
  intro p l e R s mid args below meth c F E X H locs lr hP hlo hls
  obtain ⟨hx, hb, hml, hown, hts, hK, hrm, -⟩ := id X
  obtain ⟨c1, c2, c3, c4⟩ := hc
  have hKn := hK.1.1 ci _ (zcl_at ci c1)
  refine W.newcK hx hb hown (hts _ c2) (hts _ c3) (hts _ c4) rfl hd (Nat.le_trans h1 hrm.2.2.1) (Nat.le_trans h2 hrm.2.2.2) hKn.2.1 rfl (fun H1 kC hkC e1 z1 o1 => ?_)
  have hz := zad_n hP
  have hP1 : zPic E (znw m) s H1 := by
    refine hP.new z1 o1 ?_
    unfold zAt
    rw [hl, if_pos c1]
    refine (u_born (zct ci) hts (zlay_in ci c1) hKn hkC (by rw [hz]; exact e1) (zct_ok ci c1)).to (fun k hk => ?_)
    rw [zvl_n0, hl]
    exact zct_df ci c1 k hk
  have := kk p l e R s mid args below meth c F E X H1 locs lr hP1 hlo hls
  rw [← hz]
  exact this
theorem zr_newarray {atype : ArrayType} {kd k : Nat} (hd : decode M.2.2.1 pc = .ok (.newarray atype, 2)) (hty : newarray.typeOf atype = zaty kd) (h10 : 10 ≤ kd) (h15 : kd < 15) (hw : Cond.arrayClass (zaty kd) ∈ zW) (hk : k < 65536) (hl : zLay (zn m) = (kd, k)) (h1 : uc + 1 ≤ mc) (h2 : us + k ≤ ms) (kk : zwp d M mc ms Q (pc + 2) ls (.ref (zn m) :: st) (uc + 1) (us + k) (znw m)) : zwp d M mc ms Q pc ls (.int (nI k) :: st) uc us m := by
  intro p l e R s mid args below meth c F E X H locs lr hP hlo hls
  obtain ⟨hx, hb, hml, hown, hts, hK, hrm, -⟩ := id X
  have hz := zad_n hP
  have hcb : componentBytes (zaty kd) ≤ 8 := by
    have : kd = 10 ∨ kd = 11 ∨ kd = 12 ∨ kd = 13 ∨ kd = 14 := by omega
    rcases this with rfl | rfl | rfl | rfl | rfl <;> decide
  have hbytes : k * componentBytes (newarray.typeOf atype) ≤ 536870912 := by
    rw [hty]
    exact Nat.le_trans (Nat.mul_le_mul (Nat.le_of_lt hk) hcb) (by decide)
  refine va_newaK hx hb (by rw [hty]; exact hts _ hw) rfl hd rfl (nI_pos (by omega)) (nI_clamp (by omega)) hbytes (Nat.le_trans h1 hrm.2.2.1) (Nat.le_trans h2 hrm.2.2.2) rfl (fun H1 cA e1 z1 o1 hAr hNm => ?_)
  have hcA : cA = E.2.2.2 kd := by
    have hRA := (hK.1.2 (zti kd) _ (zty_at kd h10 (by omega))).2
    rw [hty] at hNm
    have : s.vm.findClass ("[" ++ (zaty kd).toString) = some (E.2.2.2 kd) := by
      have h5 : kd = 10 ∨ kd = 11 ∨ kd = 12 ∨ kd = 13 ∨ kd = 14 := by omega
      rcases h5 with rfl | rfl | rfl | rfl | rfl <;> exact hRA
    exact Option.some.inj (hNm.symm.trans this)
  have hP1 : zPic E (znw m) s H1 := by
    refine hP.new z1 o1 ?_
    unfold zAt
    rw [hl, if_neg (by show ¬ kd < 10; omega), hz, e1, hcA]
    refine congrArg (fun f => some (arrV (E.2.2.2 kd) k f)) (funext fun j => ?_)
    rw [zvl_n0, hl, hty]
    have h5 : kd = 10 ∨ kd = 11 ∨ kd = 12 ∨ kd = 13 ∨ kd = 14 := by omega
    rcases h5 with rfl | rfl | rfl | rfl | rfl <;> rfl
  have := kk p l e R s mid args below meth c F E X H1 locs lr hP1 hlo hls
  rw [← hz]
  exact this
theorem zr_anewarray {idx kd k : Nat} (hd : decode M.2.2.1 pc = .ok (.anewarray idx, 3)) (h15 : 15 ≤ kd) (h19 : kd < 19) (hw : Cond.classLink (zcn M.1) idx (zcl (zcmp kd)).1 ∈ zW) (hov : Cond.arrayOver (.object (zcl (zcmp kd)).1) ∈ lw_tbl) (hk : k < 65536) (hl : zLay (zn m) = (kd, k)) (h1 : uc + 1 ≤ mc) (h2 : us + k ≤ ms) (kk : zwp d M mc ms Q (pc + 3) ls (.ref (zn m) :: st) (uc + 1) (us + k) (znw m)) : zwp d M mc ms Q pc ls (.int (nI k) :: st) uc us m := by
  intro p l e R s mid args below meth c F E X H locs lr hP hlo hls
  obtain ⟨hx, hb, hml, hown, hts, hK, hrm, -⟩ := id X
  have hz := zad_n hP
  have hk2 : (nI k).toNatClampNeg = k := nI_clamp (by omega)
  have hta : zaty kd = .object (zcl (zcmp kd)).1 := by
    have : kd = 15 ∨ kd = 16 ∨ kd = 17 ∨ kd = 18 := by omega
    rcases this with rfl | rfl | rfl | rfl <;> rfl
  refine W.anew hx hb hown (hts _ hw) (va_AO.use (hK.2 _ hov rfl)) rfl hd rfl (nI_pos (by omega)) (by rw [hk2]; omega) (Nat.le_trans h1 hrm.2.2.1) (by rw [hk2]; exact Nat.le_trans h2 hrm.2.2.2) (fun cA kA comp f1 f2 f3 f4 => ?_)
  have hcA : cA = E.2.2.2 kd := by
    have hRA := (hK.1.2 (zti kd) _ (zty_at kd (by omega) h19)).2
    rw [hta] at hRA
    obtain ⟨_, _, -, -, -, g⟩ := hRA
    exact Option.some.inj (f1.symm.trans g)
  rw [hk2]
  generalize hH1 : H.push ({ cls := cA, slots := Array.replicate k .null, vm := .none } : Cell) = H1
  have z1 : H1.size = H.size + 1 := by rw [← hH1, Array.size_push]
  have e1 : H1[H.size]? = some (arrV cA k (fun _ => .null)) := by rw [← hH1, Array.getElem?_push_size, ← arrV_new]
  have o1 : ∀ q : Nat, q < H.size → H1[q]? = H[q]? := fun q hq => by rw [← hH1, Array.getElem?_push, if_neg (Nat.ne_of_lt hq)]
  have hP1 : zPic E (znw m) s H1 := by
    refine hP.new z1 o1 ?_
    unfold zAt
    rw [hl, if_neg (by show ¬ kd < 10; omega), hz, e1, hcA]
    refine congrArg (fun f => some (arrV (E.2.2.2 kd) k f)) (funext fun j => ?_)
    rw [zvl_n0, hl]
    have h5 : kd = 15 ∨ kd = 16 ∨ kd = 17 ∨ kd = 18 := by omega
    rcases h5 with rfl | rfl | rfl | rfl <;> rfl
  have := kk p l e R s mid args below meth c F E X H1 locs lr hP1 hlo hls
  rw [← hz]
  exact this
/-- the script -/
theorem zr_sload {j : Int32} (hd : decode M.2.2.1 pc = .ok (.iaload, 1)) (hj : vp_in j (zR m 1 0)) (kk : zwp d M mc ms Q (pc + 1) ls (.int (zI m 1 j.toNatClampNeg) :: st) uc us m) : zwp d M mc ms Q pc ls (.int j :: .ref 1 :: st) uc us m := by
  intro p l e R s mid args below meth c F E X H locs lr hP hlo hls
  obtain ⟨scr, h1, h2, h3, h4, h5⟩ := hP.2.2.2.1
  have hlt : j.toNatClampNeg < zR m 1 0 := Nat.not_le.mp fun q => hj (Or.inr q)
  exact W.iald (v := .int (zI m 1 j.toNatClampNeg)) X.1 X.2.1 h1 h2 h3 (by rw [h4]; exact hj) (h5 _ hlt) rfl rfl hd (kk p l e R s mid args below meth c F E X H locs lr hP hlo hls)
theorem zr_slen (hd : decode M.2.2.1 pc = .ok (.arraylength, 1)) (kk : zwp d M mc ms Q (pc + 1) ls (.int (nI (zR m 1 0)) :: st) uc us m) : zwp d M mc ms Q pc ls (.ref 1 :: st) uc us m := by
  intro p l e R s mid args below meth c F E X H locs lr hP hlo hls
  obtain ⟨scr, h1, h2, h3, h4, h5⟩ := hP.2.2.2.1
  exact W.alen (n := nI (zR m 1 0)) X.1 X.2.1 h1 h2 (by rw [h4]; rfl) rfl rfl hd (kk p l e R s mid args below meth c F E X H locs lr hP hlo hls)
/-! contracts -/
def zPc (E : zE) (as : List Value) (m : zM) : Array Value → State → Prop := fun v U => v = (as.map (ztr E)).toArray ∧ zKs E U ∧ zPic E m U U.heap
def zrv (M : zMeth) (E : zE) (v : Value) : Option Value := match M.2.2.2.2.2 with
  | none => none
  | some _ => some (ztr E v)
def zQc (E : zE) (M : zMeth) (Q : Value → zM → Prop) : Array Value → State → Outcome → State → Prop := fun _ _ o t => ∃ (v : Value) (m' : zM), o = .returned (zrv M E v) ∧ Q v m' ∧ zPic E m' t t.heap
abbrev zws (M : zMeth) : List Cond := Cond.code M.2.2.2.2.1 M.2.2.1 M.2.2.2.1 M.2.2.2.2.2 :: zW
def zC (d : Nat) (M : zMeth) (mc ms : Nat) (as : List Value) (m : zM) (Q : Value → zM → Prop) : Prop :=
  ∀ (l : Launch) (E : zE), Met l M.2.2.2.2.1 (zws M) { frames := d, cells := mc, slots := ms, locals := 40 * d } (zPc E as m) (zQc E M Q) mc ms (fun q => E.2.1 ≤ q)
theorem zPc_blind (E : zE) (as : List Value) (m : zM) : FrameBlind (zPc E as m) := by
  intro a U g mk h
  obtain ⟨h1, h2, h3⟩ := h
  exact ⟨h1, ⟨va_K.moved (u := U) (U := U.calling g mk a) (Vm.Alike.refl U.vm) h2.1, h2.2.moved (s := U) (U := U.calling g mk a) (State.WarmedH.refl U)⟩, zPic.moved (u := U) (U := U.calling g mk a) (Vm.Alike.refl U.vm) h3⟩
/-- what the tables say of a method that is called -/
def zYs (M : zMeth) (na : Nat) : Prop :=
  Cond.code M.2.2.2.2.1 M.2.2.1 M.2.2.2.1 M.2.2.2.2.2 ∈ zW ∧ Cond.initialized M.2.2.2.2.1.cls ∈ zW ∧ (M.2.2.2.2.1.cls ≠ "java/lang/invoke/MethodHandle" ∧ M.2.2.2.2.1.cls ≠ "java/lang/invoke/VarHandle" ∧ (parseMethodDescriptor M.2.2.2.2.1.desc).map (fun d => d.parameters.length) = some na) ∧ M.2.2.2.1 ≤ 21 ∧ M.2.2.2.2.1.cls = zcn M.1
theorem zenter {as : List Value} (hy : plainName M.2.2.2.2.1.cls = true ∨ plainFor M.2.2.2.2.1 = true) (hcls : M.2.2.2.2.1.cls = zcn M.1) (hini : M.2.1 = true → M.2.2.2.2.1.name = "<init>") (hlen : (zen as).length ≤ M.2.2.2.1) (k : zwp d M mc ms Q 0 (zen as) [] 0 0 m) : zC d M mc ms as m Q := by
  intro l E
  have body : ∀ p e s mid args below meth c s₁, BodyLoose p l M.2.2.2.2.1 (headSpec (zws M) { frames := d, cells := mc, slots := ms, locals := 40 * d }) M.2.2.1 M.2.2.2.1 M.2.2.2.2.2 e s mid args below meth c s₁ → c.maxLocals = M.2.2.2.1 → zPc E as m args s →
      W p l e (headSpec (zws M) { frames := d, cells := mc, slots := ms, locals := 40 * d }).room s mid args below meth c s.heap [] 0 0 (MQ below (zQc E M Q) args s mc ms (fun q => E.2.1 ≤ q)) (entryFrame mid args M.2.2.2.1) := ?_
  · rcases hy with hy | hy
    · exact Met.ofW (cc := M.2.2.1) (maxL := M.2.2.2.1) (ret := M.2.2.2.2.2) hy rfl body
    · exact va_MetF (cc := M.2.2.1) (maxL := M.2.2.2.1) (ret := M.2.2.2.2.2) hy rfl body
  intro p e s mid args below meth c s₁ B hml hv
  obtain ⟨rfl, hK, hP⟩ := hv
  have hr := B.returns
  have hlocks := B.notSynchronized
  have hin : meth.name = M.2.2.2.2.1.name := (name_of_methodNamed B.named B.method).1
  have hts := atoms_spec (ws := zws M) B.pre
  have X : zCtx d M mc ms Q p l e (headSpec (zws M) { frames := d, cells := mc, slots := ms, locals := 40 * d }).room s mid ((as.map (ztr E)).toArray) below meth c (MQ below (zQc E M Q) ((as.map (ztr E)).toArray) s mc ms (fun q => E.2.1 ≤ q)) E := by
    refine ⟨B.exec, B.bytes, hml, ?_, fun w hw => hts w (List.mem_cons_of_mem _ hw), hK, ⟨Nat.le_refl _, Nat.le_refl _, Nat.le_refl _, Nat.le_refl _⟩, fun h => hin.trans (hini h), ?_⟩
    · rw [← hcls]; exact findClass_of_methodNamed B.named
    · intro H locs lr pc uc us i v m' hret hd h1 h2 hP' hlo hq
      refine W.widen h1 h2 ?_
      have hQ : ∀ t : State, t.heap = H → s.WarmedH t.vm → zQc E M Q ((as.map (ztr E)).toArray) s (.returned (zrv M E v)) t := fun t ht hW => ⟨v, m', rfl, hq, by rw [ht]; exact hP'.moved hW.alike⟩
      rcases hret with ⟨r1, rfl, rfl⟩ | ⟨r1, rfl, x, rfl⟩ | ⟨r1, rfl, hx⟩ | ⟨r1, rfl, x, rfl⟩ | ⟨⟨n, r1⟩, rfl, x, rfl⟩
      · have e1 : zrs M E .null = [] := by unfold zrs; rw [r1]
        have e2 : zrv M E .null = none := by unfold zrv; rw [r1]
        rw [e1]
        rw [e2] at hQ
        exact W.vret B.exec B.bytes (hr.trans r1) hQ hlo hd
      · have e1 : zrs M E (.int x) = [.int x] := by unfold zrs; rw [r1]; rfl
        have e2 : zrv M E (.int x) = some (.int x) := by unfold zrv; rw [r1]; rfl
        rw [e1]
        rw [e2] at hQ
        exact W.iret B.exec B.bytes (hr.trans r1) hQ hlo hd
      · obtain ⟨x, rfl, hx2⟩ : ∃ x, v = .int x ∧ narrow .boolean (.int x) = .int x := by
          rcases hx with rfl | rfl
          · exact ⟨0, rfl, rfl⟩
          · exact ⟨1, rfl, rfl⟩
        have e1 : zrs M E (.int x) = [.int x] := by unfold zrs; rw [r1]; rfl
        have e2 : zrv M E (.int x) = some (.int x) := by unfold zrv; rw [r1]; rfl
        rw [e1]
        rw [e2] at hQ
        exact W.zret (ty := .boolean) B.exec B.bytes (hr.trans r1) hx2 hQ hlo hd
      · have e1 : zrs M E (.long x) = [.long x] := by unfold zrs; rw [r1]; rfl
        have e2 : zrv M E (.long x) = some (.long x) := by unfold zrv; rw [r1]; rfl
        rw [e1]
        rw [e2] at hQ
        exact W.lret B.exec B.bytes (hr.trans r1) hQ hlo hd
      · have e1 : zrs M E (.ref x) = [.ref (zad E x)] := by unfold zrs; rw [r1]; rfl
        have e2 : zrv M E (.ref x) = some (.ref (zad E x)) := by unfold zrv; rw [r1]; rfl
        rw [e1]
        rw [e2] at hQ
        exact W.aret B.exec B.bytes (hr.trans r1) (Or.inl ⟨n, rfl⟩) (Or.inr ⟨_, rfl⟩) hQ hlo hd
  have hl := lv_entry (as.map (ztr E)) (n := M.2.2.2.1) (by rw [zen_len]; exact hlen)
  rw [lg_entry_eq]
  generalize (lg_sl (as.map (ztr E)) ++ List.replicate (M.2.2.2.1 - (lg_sl (as.map (ztr E))).length) Slot.unset).toArray = lr at hl ⊢
  exact k p l e _ s mid _ below meth c _ E X s.heap [] lr hP (fun q h => by cases h) ⟨hl.1, hl.2.1, fun i hi => hl.2.2 _ (by have := zen_args E as 0 i hi; rwa [Nat.zero_add] at this)⟩
/-- behind a call -/
theorem zback {p : Program} {l : Launch} {e : Env} {R : Room} {s : State} {mid : MethodId} {args : Array Value} {below : List Frame} {meth : Method} {c : Code} {F : State → Prop} {E : zE} {H : Heap} {locs : List Loc} {lr : Array Slot} {M' : zMeth} {mc' ms' : Nat} {P : Value → zM → Prop} {A : Array Value} {st0 rest : List Value}
    (hr : va_Run p l e R s mid args below meth c H locs uc us mc' ms' (F0 mid pc lr st0) rest (zQc E M' P A) (fun q => E.2.1 ≤ q)) (hlo : ∀ q ∈ locs, E.2.1 ≤ q.base)
    (kk : ∀ (v : Value) (m' : zM) (H1 : Heap) (locs1 : List Loc), P v m' → zPic E m' s H1 → (∀ q ∈ locs1, E.2.1 ≤ q.base) → W p l e R s mid args below meth c H1 locs1 (uc + mc') (us + ms') F (F0 mid (pc + 3) lr ((zrv M' E v).toList ++ rest))) :
    W p l e R s mid args below meth c H locs uc us F (F0 mid pc lr st0) := by
  intro T hT X
  obtain ⟨v, st₀, t, T', L, h0, X', hL, e1, e2, ⟨v', m', hv, hp, hpic⟩, stp⟩ := hr T hT X
  have hv' : v = zrv M' E v' := Outcome.returned.inj hv
  subst hv'
  have hal : t.vm.Alike s.vm := by rw [← e2]; exact X'.warmed.alike.symm
  obtain ⟨t2, a1, b1⟩ := kk v' m' T'.heap (locs ++ L) hp (by rw [e1]; exact hpic.moved hal) (fun q hq => by
    rcases List.mem_append.mp hq with h | h
    · exact hlo q h
    · exact hL q h) T' rfl X'
  exact ⟨t2, stp t2 a1, b1⟩
def zVs (own idx : Nat) (M' : zMeth) (na : Nat) : Prop := zYs M' na ∧ Cond.methodLink (zcn own) idx M'.2.2.2.2.1 ∈ zW ∧ Cond.instanceMethod M'.2.2.2.2.1 ∈ zW ∧ Cond.selects (zcn M'.1) M'.2.2.2.2.1 M'.2.2.2.2.1 ∈ zW ∧ M'.1 < 10
def zSs (own idx : Nat) (M' : zMeth) (na : Nat) : Prop := zYs M' na ∧ Cond.methodLink (zcn own) idx M'.2.2.2.2.1 ∈ zW ∧ Cond.static M'.2.2.2.2.1 ∈ zW
def zSn (own idx : Nat) (M' : zMeth) (na : Nat) : Prop := zYs M' na ∧ (∃ host, Cond.methodLinkNest (zcn own) idx M'.2.2.2.2.1 host ∈ lw_tbl) ∧ Cond.static M'.2.2.2.2.1 ∈ zW
def zIs (own idx : Nat) (M' : zMeth) (na : Nat) : Prop := zYs M' na ∧ Cond.methodLink (zcn own) idx M'.2.2.2.2.1 ∈ zW ∧ Cond.instanceMethod M'.2.2.2.2.1 ∈ zW ∧ M'.2.2.2.2.1.name = "<init>" ∧ M'.2.2.2.2.2 = none
def zIn (own idx : Nat) (M' : zMeth) (na : Nat) : Prop := zYs M' na ∧ (∃ host, Cond.methodLinkNest (zcn own) idx M'.2.2.2.2.1 host ∈ lw_tbl) ∧ Cond.instanceMethod M'.2.2.2.2.1 ∈ zW ∧ M'.2.2.2.2.1.name = "<init>" ∧ M'.2.2.2.2.2 = none
/-- a call by invokevirtual: as the arguments, the last one first on the stack -/
theorem zr_callV {M' : zMeth} {idx na a mc' ms' : Nat} {as rest : List Value} (hd : decode M.2.2.1 pc = .ok (.invokevirtual idx, 3)) (hv : zVs M.1 idx M' na) (ho : zOb m a M'.1) (hst : st = as.reverse ++ .ref a :: rest) (hna : as.length = na) (hcat : (rest.map fun v => v.category).sum ≤ 8) (h1 : uc + mc' ≤ mc) (h2 : us + ms' ≤ ms)
    (hc : zC d M' mc' ms' (.ref a :: as) m (fun v m' => zwp (d + 1) M mc ms Q (pc + 3) ls ((match M'.2.2.2.2.2 with | none => rest | some _ => v :: rest)) (uc + mc') (us + ms') m')) : zwp (d + 1) M mc ms Q pc ls st uc us m := by
  intro p l e R s mid args below meth c F E X H locs lr hP hlo hls
  obtain ⟨hx, hb, hml, hown, hts, hK, hrm, -⟩ := id X
  obtain ⟨⟨y1, y2, y3, y4, y6⟩, v1, v2, v3, v4⟩ := hv
  subst hst
  have hM := hc l E
  have hcat' : ((rest.map (ztr E)).map fun v => v.category).sum ≤ 8 := by
    rw [List.map_map]
    simpa [Function.comp_def, ztr_cat] using hcat
  obtain ⟨cell, q1, q2, q3, q4⟩ := (hP.2.2.2.2 a ho.2.1 ho.2.2).ob ho.1 v4
  refine zback (M' := M') (rest := rest.map (ztr E)) (va_runV (As := as.map (ztr E)) (b := zad E a) (C := zcn M'.1) (nL := M.2.2.2.1) (own := zcn M.1) (Ts := zW) (bytes := M'.2.2.1) (maxL := M'.2.2.2.1) (ret := M'.2.2.2.2.2) ⟨hx, hb, hml, hown, hts⟩ hM
    (cwV (ws' := zW) na hts (fun w hw => ?_) rfl rfl rfl ⟨y6, y3⟩ ⟨hrm.1, by show 8 + (M'.2.2.2.1 + 11) + 40 * d ≤ R.locals; have := hrm.2.1; omega⟩)
    ⟨zPc_blind _ _ _, ⟨cell, q1, by rw [q3]; rfl, by rw [q2, ← zcl_nm _ v4]; exact (hK.1.1 M'.1 _ (zcl_at _ v4)).2.1⟩, fun U hU hW => ⟨by simp [ztr], hK.moved hW, by rw [hU]; exact hP.moved hW.alike⟩⟩ rfl (by rw [List.length_map]; exact hna) hls.1 (by simp [ztr]) (lv_room hcat') hd ⟨Nat.le_trans h1 hrm.2.2.1, Nat.le_trans h2 hrm.2.2.2⟩) hlo ?_
  · refine zW_good ?_
    simp only [wsV, List.cons_append, List.nil_append, List.mem_cons] at hw
    rcases hw with rfl | rfl | rfl | rfl | rfl | hw
    · exact v1
    · exact v2
    · exact v3
    · rw [← y6]; exact y2
    · exact y1
    · exact hw
  · intro v m' H1 locs1 hp hP1 hlo1
    have := hp p l e R s mid args below meth c F E X H1 locs1 lr hP1 hlo1 hls
    unfold zrv
    cases hrt : M'.2.2.2.2.2 with
    | none => rw [hrt] at this; exact this
    | some t => rw [hrt] at this; exact this
theorem zr_callS {M' : zMeth} {idx na mc' ms' : Nat} {as rest : List Value} (hd : decode M.2.2.1 pc = .ok (.invokestatic idx, 3)) (hv : zSs M.1 idx M' na) (hst : st = as.reverse ++ rest) (hna : as.length = na) (hcat : (rest.map fun v => v.category).sum ≤ 8) (h1 : uc + mc' ≤ mc) (h2 : us + ms' ≤ ms)
    (hc : zC d M' mc' ms' as m (fun v m' => zwp (d + 1) M mc ms Q (pc + 3) ls ((match M'.2.2.2.2.2 with | none => rest | some _ => v :: rest)) (uc + mc') (us + ms') m')) : zwp (d + 1) M mc ms Q pc ls st uc us m := by
  intro p l e R s mid args below meth c F E X H locs lr hP hlo hls
  obtain ⟨hx, hb, hml, hown, hts, hK, hrm, -⟩ := id X
  obtain ⟨⟨y1, y2, y3, y4, y6⟩, v1, v2⟩ := hv
  subst hst
  have hM := hc l E
  have hcat' : ((rest.map (ztr E)).map fun v => v.category).sum ≤ 8 := by
    rw [List.map_map]
    simpa [Function.comp_def, ztr_cat] using hcat
  refine zback (M' := M') (rest := rest.map (ztr E)) (va_runS (As := as.map (ztr E)) (nL := M.2.2.2.1) (own := zcn M.1) (Ts := zW) (bytes := M'.2.2.1) (maxL := M'.2.2.2.1) (ret := M'.2.2.2.2.2) ⟨hx, hb, hml, hown, hts⟩ hM
    (va_cwS (ws' := zW) na hts (fun w hw => ?_) rfl rfl rfl y3 ⟨hrm.1, by show 8 + (M'.2.2.2.1 + 11) + 40 * d ≤ R.locals; have := hrm.2.1; omega⟩)
    ⟨zPc_blind _ _ _, fun U hU hW => ⟨rfl, hK.moved hW, by rw [hU]; exact hP.moved hW.alike⟩⟩ rfl (by rw [List.length_map]; exact hna) hls.1 (by simp) (lv_room hcat') hd ⟨Nat.le_trans h1 hrm.2.2.1, Nat.le_trans h2 hrm.2.2.2⟩) hlo ?_
  · refine zW_good ?_
    simp only [va_wsS, List.cons_append, List.nil_append, List.mem_cons] at hw
    rcases hw with rfl | rfl | rfl | rfl | hw
    · exact v1
    · exact v2
    · exact y2
    · exact y1
    · exact hw
  · intro v m' H1 locs1 hp hP1 hlo1
    have := hp p l e R s mid args below meth c F E X H1 locs1 lr hP1 hlo1 hls
    unfold zrv
    cases hrt : M'.2.2.2.2.2 with
    | none => rw [hrt] at this; exact this
    | some t => rw [hrt] at this; exact this
theorem zr_callSN {M' : zMeth} {idx na mc' ms' : Nat} {as rest : List Value} (hd : decode M.2.2.1 pc = .ok (.invokestatic idx, 3)) (hv : zSn M.1 idx M' na) (hst : st = as.reverse ++ rest) (hna : as.length = na) (hcat : (rest.map fun v => v.category).sum ≤ 8) (h1 : uc + mc' ≤ mc) (h2 : us + ms' ≤ ms)
    (hc : zC d M' mc' ms' as m (fun v m' => zwp (d + 1) M mc ms Q (pc + 3) ls ((match M'.2.2.2.2.2 with | none => rest | some _ => v :: rest)) (uc + mc') (us + ms') m')) : zwp (d + 1) M mc ms Q pc ls st uc us m := by
  intro p l e R s mid args below meth c F E X H locs lr hP hlo hls
  obtain ⟨hx, hb, hml, hown, hts, hK, hrm, -⟩ := id X
  obtain ⟨⟨y1, y2, y3, y4, y6⟩, ⟨host, v1⟩, v2⟩ := hv
  subst hst
  have hM := hc l E
  have hcat' : ((rest.map (ztr E)).map fun v => v.category).sum ≤ 8 := by
    rw [List.map_map]
    simpa [Function.comp_def, ztr_cat] using hcat
  refine zback (M' := M') (rest := rest.map (ztr E)) (va_runSN (As := as.map (ztr E)) (nL := M.2.2.2.1) (own := zcn M.1) (host := host) (Ts := zW) (bytes := M'.2.2.1) (maxL := M'.2.2.2.1) (ret := M'.2.2.2.2.2) ⟨hx, hb, hml, hown, hts⟩ hM
    ⟨va_cnB (Ts := zW) (ws' := zW) na hts (zGood y1 (fun x h => h)) rfl rfl rfl (hK.2 _ v1 rfl) (hts _ y2) y3 ⟨hrm.1, by show 8 + (M'.2.2.2.1 + 11) + 40 * d ≤ R.locals; have := hrm.2.1; omega⟩, hts _ v2, trivial⟩
    ⟨zPc_blind _ _ _, fun U hU hW => ⟨rfl, hK.moved hW, by rw [hU]; exact hP.moved hW.alike⟩⟩ rfl (by rw [List.length_map]; exact hna) hls.1 (by simp) (lv_room hcat') hd ⟨Nat.le_trans h1 hrm.2.2.1, Nat.le_trans h2 hrm.2.2.2⟩) hlo ?_
  intro v m' H1 locs1 hp hP1 hlo1
  have := hp p l e R s mid args below meth c F E X H1 locs1 lr hP1 hlo1 hls
  unfold zrv
  cases hrt : M'.2.2.2.2.2 with
  | none => rw [hrt] at this; exact this
  | some t => rw [hrt] at this; exact this
theorem zr_callI {M' : zMeth} {idx na a mc' ms' : Nat} {as rest : List Value} (hd : decode M.2.2.1 pc = .ok (.invokespecial idx, 3)) (hv : zIs M.1 idx M' na) (hst : st = as.reverse ++ .ref a :: rest) (hna : as.length = na) (hcat : (rest.map fun v => v.category).sum ≤ 8) (h1 : uc + mc' ≤ mc) (h2 : us + ms' ≤ ms)
    (hc : zC d M' mc' ms' (.ref a :: as) m (fun _ m' => zwp (d + 1) M mc ms Q (pc + 3) ls rest (uc + mc') (us + ms') m')) : zwp (d + 1) M mc ms Q pc ls st uc us m := by
  intro p l e R s mid args below meth c F E X H locs lr hP hlo hls
  obtain ⟨hx, hb, hml, hown, hts, hK, hrm, -⟩ := id X
  obtain ⟨⟨y1, y2, y3, y4, y6⟩, v1, v2, v3, v4⟩ := hv
  subst hst
  have hM := hc l E
  have hcat' : ((rest.map (ztr E)).map fun v => v.category).sum ≤ 8 := by
    rw [List.map_map]
    simpa [Function.comp_def, ztr_cat] using hcat
  have y1' : Cond.code M'.2.2.2.2.1 M'.2.2.1 M'.2.2.2.1 none ∈ zW := by rw [← v4]; exact y1
  refine zback (M' := M') (rest := rest.map (ztr E)) (va_runI (As := as.map (ztr E)) (b := zad E a) (nL := M.2.2.2.1) (own := zcn M.1) (Ts := zW) (bytes := M'.2.2.1) (maxL := M'.2.2.2.1) ⟨hx, hb, hml, hown, hts⟩ hM
    (cwI (Ts := zW) (ws' := zW) na hts (by unfold zws; rw [v4]; exact zGood y1' (fun x h => h)) (by unfold zws; rw [v4]) rfl rfl (hts _ y2) (hts _ v1) (hts _ v2) v3 y3 ⟨hrm.1, by show 8 + (M'.2.2.2.1 + 11) + 40 * d ≤ R.locals; have := hrm.2.1; omega⟩)
    ⟨zPc_blind _ _ _, fun U hU hW => ⟨rfl, hK.moved hW, by rw [hU]; exact hP.moved hW.alike⟩⟩ rfl (by rw [List.length_map]; exact hna) hls.1 (by simp [ztr]) (lv_room hcat') hd ⟨Nat.le_trans h1 hrm.2.2.1, Nat.le_trans h2 hrm.2.2.2⟩) hlo ?_
  intro v m' H1 locs1 hp hP1 hlo1
  have := hp p l e R s mid args below meth c F E X H1 locs1 lr hP1 hlo1 hls
  unfold zrv
  rw [v4]
  exact this
theorem zr_callIN {M' : zMeth} {idx na a mc' ms' : Nat} {as rest : List Value} (hd : decode M.2.2.1 pc = .ok (.invokespecial idx, 3)) (hv : zIn M.1 idx M' na) (hst : st = as.reverse ++ .ref a :: rest) (hna : as.length = na) (hcat : (rest.map fun v => v.category).sum ≤ 8) (h1 : uc + mc' ≤ mc) (h2 : us + ms' ≤ ms)
    (hc : zC d M' mc' ms' (.ref a :: as) m (fun _ m' => zwp (d + 1) M mc ms Q (pc + 3) ls rest (uc + mc') (us + ms') m')) : zwp (d + 1) M mc ms Q pc ls st uc us m := by
  intro p l e R s mid args below meth c F E X H locs lr hP hlo hls
  obtain ⟨hx, hb, hml, hown, hts, hK, hrm, -⟩ := id X
  obtain ⟨⟨y1, y2, y3, y4, y6⟩, ⟨host, v1⟩, v2, v3, v4⟩ := hv
  subst hst
  have hM := hc l E
  have hcat' : ((rest.map (ztr E)).map fun v => v.category).sum ≤ 8 := by
    rw [List.map_map]
    simpa [Function.comp_def, ztr_cat] using hcat
  have y1' : Cond.code M'.2.2.2.2.1 M'.2.2.1 M'.2.2.2.1 none ∈ zW := by rw [← v4]; exact y1
  refine zback (M' := M') (rest := rest.map (ztr E)) (va_runIN (As := as.map (ztr E)) (b := zad E a) (nL := M.2.2.2.1) (own := zcn M.1) (host := host) (Ts := zW) (bytes := M'.2.2.1) (maxL := M'.2.2.2.1) ⟨hx, hb, hml, hown, hts⟩ hM
    ⟨va_cnB (Ts := zW) (ws' := zW) na hts (by unfold zws; rw [v4]; exact zGood y1' (fun x h => h)) (by unfold zws; rw [v4]) rfl rfl (hK.2 _ v1 rfl) (hts _ y2) y3 ⟨hrm.1, by show 8 + (M'.2.2.2.1 + 11) + 40 * d ≤ R.locals; have := hrm.2.1; omega⟩, v3, hts _ v2⟩
    ⟨zPc_blind _ _ _, fun U hU hW => ⟨rfl, hK.moved hW, by rw [hU]; exact hP.moved hW.alike⟩⟩ rfl (by rw [List.length_map]; exact hna) hls.1 (by simp [ztr]) (lv_room hcat') hd ⟨Nat.le_trans h1 hrm.2.2.1, Nat.le_trans h2 hrm.2.2.2⟩) hlo ?_
  intro v m' H1 locs1 hp hP1 hlo1
  have := hp p l e R s mid args below meth c F E X H1 locs1 lr hP1 hlo1 hls
  unfold zrv
  rw [v4]
  exact this
theorem zr_objInit {idx a : Nat} {rest : List Value} (hd : decode M.2.2.1 pc = .ok (.invokespecial idx, 3)) (h1 : Cond.methodLink (zcn M.1) idx Lib.objectInit ∈ zW) (h2 : Cond.instanceMethod Lib.objectInit ∈ zW) (h3 : Cond.code Lib.objectInit ⟨#[0xb1]⟩ 1 none ∈ zW) (hcat : (rest.map fun v => v.category).sum ≤ 8) (kk : zwp (d + 1) M mc ms Q (pc + 3) ls rest uc us m) : zwp (d + 1) M mc ms Q pc ls (.ref a :: rest) uc us m := by
  intro p l e R s mid args below meth c F E X H locs lr hP hlo hls
  obtain ⟨hx, hb, hml, hown, hts, hK, hrm, -⟩ := id X
  have hcat' : ((rest.map (ztr E)).map fun v => v.category).sum ≤ 8 := by
    rw [List.map_map]
    simpa [Function.comp_def, ztr_cat] using hcat
  exact W.objInit (rest := rest.map (ztr E)) (a := zad E a) hx hb hown (hts _ h1) (hts _ h2) (hts _ h3) rfl (hls.1.trans hml.symm) rfl hd (by have := hrm.1; omega) (by have := lv_room (m := mid) (pc := pc) (ls := lr) (rest := []) hcat'; have := hrm.2.1; exact Nat.le_trans (Nat.add_le_add_right (lv_room hcat') 12) (by omega)) (kk p l e R s mid args below meth c F E X H locs lr hP hlo hls)
theorem zr_mmax {idx : Nat} {x y : Int32} (hd : decode M.2.2.1 pc = .ok (.invokestatic idx, 3)) (h1 : Cond.methodLink (zcn M.1) idx Lib.Math.max.name ∈ zW) (h2 : Cond.static Lib.Math.max.name ∈ zW) (h3 : Cond.initialized "java/lang/Math" ∈ zW) (h4 : Cond.code Lib.Math.max.name Lib.Math.max.code 2 (some .int) ∈ zW) (hcat : (st.map fun v => v.category).sum ≤ 8) (h5 : uc ≤ mc) (h6 : us ≤ ms) (kk : zwp (d + 1) M mc ms Q (pc + 3) ls (.int (if x < y then y else x) :: st) uc us m) : zwp (d + 1) M mc ms Q pc ls (.int y :: .int x :: st) uc us m := by
  intro p l e R s mid args below meth c F E X H locs lr hP hlo hls
  obtain ⟨hx, hb, hml, hown, hts, hK, hrm, -⟩ := id X
  have hcat' : ((st.map (ztr E)).map fun v => v.category).sum ≤ 8 := by
    rw [List.map_map]
    simpa [Function.comp_def, ztr_cat] using hcat
  exact va_mmax hx hb (hml.trans hls.1.symm) hown (hts _ h1) (hts _ h2) (hts _ h3) (hts _ h4) (by have := hrm.1; omega) (by have := hrm.2.1; omega) (Nat.le_trans h5 hrm.2.2.1) (Nat.le_trans h6 hrm.2.2.2) hd (kk p l e R s mid args below meth c F E X H locs lr hP hlo hls)
theorem zr_mmin {idx : Nat} {x y : Int32} (hd : decode M.2.2.1 pc = .ok (.invokestatic idx, 3)) (h1 : Cond.methodLink (zcn M.1) idx Lib.Math.min.name ∈ zW) (h2 : Cond.static Lib.Math.min.name ∈ zW) (h3 : Cond.initialized "java/lang/Math" ∈ zW) (h4 : Cond.code Lib.Math.min.name Lib.Math.min.code 2 (some .int) ∈ zW) (hcat : (st.map fun v => v.category).sum ≤ 8) (h5 : uc ≤ mc) (h6 : us ≤ ms) (kk : zwp (d + 1) M mc ms Q (pc + 3) ls (.int (if y < x then y else x) :: st) uc us m) : zwp (d + 1) M mc ms Q pc ls (.int y :: .int x :: st) uc us m := by
  intro p l e R s mid args below meth c F E X H locs lr hP hlo hls
  obtain ⟨hx, hb, hml, hown, hts, hK, hrm, -⟩ := id X
  have hcat' : ((st.map (ztr E)).map fun v => v.category).sum ≤ 8 := by
    rw [List.map_map]
    simpa [Function.comp_def, ztr_cat] using hcat
  exact va_mmin hx hb (hml.trans hls.1.symm) hown (hts _ h1) (hts _ h2) (hts _ h3) (hts _ h4) (by have := hrm.1; omega) (by have := hrm.2.1; omega) (Nat.le_trans h5 hrm.2.2.1) (Nat.le_trans h6 hrm.2.2.2) hd (kk p l e R s mid args below meth c F E X H locs lr hP hlo hls)
theorem zr_f2i {idx : Nat} {b : UInt32} (hd : decode M.2.2.1 pc = .ok (.invokestatic idx, 3)) (h1 : Cond.methodLink (zcn M.1) idx ⟨"java/lang/Float", "floatToRawIntBits", "(F)I"⟩ ∈ zW) (h2 : Cond.native ⟨"java/lang/Float", "floatToRawIntBits", "(F)I"⟩ ∈ zW) (h3 : Cond.static ⟨"java/lang/Float", "floatToRawIntBits", "(F)I"⟩ ∈ zW) (h4 : Cond.initialized "java/lang/Float" ∈ zW) (hcat : (st.map fun v => v.category).sum ≤ 8) (kk : zwp (d + 1) M mc ms Q (pc + 3) ls (.int b.toInt32 :: st) uc us m) : zwp (d + 1) M mc ms Q pc ls (.float b :: st) uc us m := by
  intro p l e R s mid args below meth c F E X H locs lr hP hlo hls
  obtain ⟨hx, hb, hml, hown, hts, hK, hrm, -⟩ := id X
  have hcat' : ((st.map (ztr E)).map fun v => v.category).sum ≤ 8 := by
    rw [List.map_map]
    simpa [Function.comp_def, ztr_cat] using hcat
  exact vn_f2i hx hb (hml.trans hls.1.symm) hown (hts _ h1) (hts _ h2) (hts _ h3) (hts _ h4) (by have := hrm.1; omega) (by have := hrm.2.1; omega) hd (kk p l e R s mid args below meth c F E X H locs lr hP hlo hls)
end
end
section
/-! ===== printed by gen/links.py: the methods, and what the tables say of each field, call, class and constant that an instruction names ===== -/
def M0_init : zMeth := (0, true, cX0_init, 2, yX0_init, none)
def M0_become : zMeth := (0, false, cX0_become, 3, yX0_become, none)
def M0_indexOf : zMeth := (0, false, cX0_indexOf, 6, yX0_indexOf, (some .int))
def M0_removeAt : zMeth := (0, false, cX0_removeAt, 4, yX0_removeAt, none)
def M0_removeEnded : zMeth := (0, false, cX0_removeEnded, 3, yX0_removeEnded, none)
def M0_learn : zMeth := (0, false, cX0_learn, 4, yX0_learn, none)
def M0_endRivals : zMeth := (0, false, cX0_endRivals, 5, yX0_endRivals, none)
def M0_endOf : zMeth := (0, false, cX0_endOf, 4, yX0_endOf, none)
def M0_noteKnown : zMeth := (0, false, cX0_noteKnown, 7, yX0_noteKnown, none)
def M0_newestData : zMeth := (0, false, cX0_newestData, 4, yX0_newestData, (some .int))
def M0_countOf : zMeth := (0, false, cX0_countOf, 5, yX0_countOf, (some .int))
def M0_longestLeft : zMeth := (0, false, cX0_longestLeft, 6, yX0_longestLeft, (some .int))
def M1_init : zMeth := (1, true, cX1_init, 1, yX1_init, none)
def M1_empty : zMeth := (1, false, cX1_empty, 2, yX1_empty, none)
def M1_add : zMeth := (1, false, cX1_add, 2, yX1_add, none)
def M1_has : zMeth := (1, false, cX1_has, 2, yX1_has, (some .boolean))
def M2_init : zMeth := (2, true, cX2_init, 1, yX2_init, none)
def M2_become : zMeth := (2, false, cX2_become, 2, yX2_become, none)
def M2_isNamed : zMeth := (2, false, cX2_isNamed, 3, yX2_isNamed, (some .boolean))
def M3_init : zMeth := (3, true, cX3_init, 2, yX3_init, none)
def M3_behindNewest : zMeth := (3, false, cX3_behindNewest, 1, yX3_behindNewest, (some (.object "LinkNames$Link")))
def M3_draft : zMeth := (3, false, cX3_draft, 2, yX3_draft, none)
def M3_restoreDraft : zMeth := (3, false, cX3_restoreDraft, 2, yX3_restoreDraft, none)
def M3_keepDraft : zMeth := (3, false, cX3_keepDraft, 1, yX3_keepDraft, none)
def M3_goBack : zMeth := (3, false, cX3_goBack, 2, yX3_goBack, (some .int))
def M4_init : zMeth := (4, true, cX4_init, 2, yX4_init, none)
def M4_begin : zMeth := (4, false, cX4_begin, 1, yX4_begin, none)
def M4_become : zMeth := (4, false, cX4_become, 3, yX4_become, none)
def M4_add : zMeth := (4, false, cX4_add, 6, yX4_add, (some (.object "LinkNames$NameRecord")))
def M4_takeOut : zMeth := (4, false, cX4_takeOut, 4, yX4_takeOut, (some (.object "LinkNames$NameRecord")))
def M4_hasNamed : zMeth := (4, false, cX4_hasNamed, 4, yX4_hasNamed, (some .boolean))
def M4_has : zMeth := (4, false, cX4_has, 5, yX4_has, (some .boolean))
def M4_owns : zMeth := (4, false, cX4_owns, 6, yX4_owns, (some .boolean))
def M4_ownedCount : zMeth := (4, false, cX4_ownedCount, 3, yX4_ownedCount, (some .int))
def M4_firstSole : zMeth := (4, false, cX4_firstSole, 5, yX4_firstSole, (some .int))
def M4_ownsRivalOf : zMeth := (4, false, cX4_ownsRivalOf, 4, yX4_ownsRivalOf, (some .boolean))
def M4_outbids : zMeth := (4, false, cX4_outbids, 4, yX4_outbids, (some .boolean))
def M5_init : zMeth := (5, true, cX5_init, 2, yX5_init, none)
def M5_become : zMeth := (5, false, cX5_become, 3, yX5_become, none)
def M5_isHost : zMeth := (5, false, cX5_isHost, 2, yX5_isHost, (some .boolean))
def M5_isRecord : zMeth := (5, false, cX5_isRecord, 3, yX5_isRecord, (some .boolean))
def M5_isName : zMeth := (5, false, cX5_isName, 2, yX5_isName, (some .boolean))
def M5_addHost : zMeth := (5, false, cX5_addHost, 1, yX5_addHost, (some .int))
def M5_claim : zMeth := (5, false, cX5_claim, 8, yX5_claim, (some .int))
def M5_share : zMeth := (5, false, cX5_share, 8, yX5_share, (some .int))
def M5_errorOfAdding : zMeth := (5, false, cX5_errorOfAdding, 6, yX5_errorOfAdding, (some .int))
def M5_sayGoodbye : zMeth := (5, false, cX5_sayGoodbye, 5, yX5_sayGoodbye, (some .int))
def M5_announce : zMeth := (5, false, cX5_announce, 5, yX5_announce, none)
def M5_speakerFor : zMeth := (5, false, cX5_speakerFor, 3, yX5_speakerFor, (some .int))
def M5_isDefended : zMeth := (5, false, cX5_isDefended, 3, yX5_isDefended, (some .boolean))
def M5_passTicks : zMeth := (5, false, cX5_passTicks, 6, yX5_passTicks, (some .int))
def M5_beginTick : zMeth := (5, false, cX5_beginTick, 2, yX5_beginTick, none)
def M5_measureRate : zMeth := (5, false, cX5_measureRate, 2, yX5_measureRate, none)
def M5_advance : zMeth := (5, false, cX5_advance, 3, yX5_advance, none)
def M5_isTaken : zMeth := (5, false, cX5_isTaken, 4, yX5_isTaken, (some .boolean))
def M5_isOutbid : zMeth := (5, false, cX5_isOutbid, 4, yX5_isOutbid, (some .boolean))
def M5_ask : zMeth := (5, false, cX5_ask, 6, yX5_ask, (some .int))
def M5_answerFor : zMeth := (5, false, cX5_answerFor, 9, yX5_answerFor, (some .int))
def M5_fallAsleep : zMeth := (5, false, cX5_fallAsleep, 3, yX5_fallAsleep, (some .int))
def M5_wakeUp : zMeth := (5, false, cX5_wakeUp, 6, yX5_wakeUp, (some .int))
def M5_recordProperty : zMeth := (5, false, cX5_recordProperty, 5, yX5_recordProperty, (some .int))
def M5_hostProperty : zMeth := (5, false, cX5_hostProperty, 4, yX5_hostProperty, (some .int))
def M5_hostsWithProxy : zMeth := (5, false, cX5_hostsWithProxy, 4, yX5_hostsWithProxy, (some .int))
def M5_entryProperty : zMeth := (5, false, cX5_entryProperty, 6, yX5_entryProperty, (some .int))
def M5_lookUp : zMeth := (5, false, cX5_lookUp, 6, yX5_lookUp, (some .int))
def M5_defender : zMeth := (5, false, cX5_defender, 7, yX5_defender, (some .int))
def M5_total : zMeth := (5, false, cX5_total, 5, yX5_total, (some .int))
def M5_staleEntries : zMeth := (5, false, cX5_staleEntries, 4, yX5_staleEntries, (some .int))
def M5_isOwnedByAny : zMeth := (5, false, cX5_isOwnedByAny, 3, yX5_isOwnedByAny, (some .boolean))
def M6_init : zMeth := (6, true, cX6_init, 1, yX6_init, none)
def M6_become : zMeth := (6, false, cX6_become, 2, yX6_become, none)
def M6_isNamed : zMeth := (6, false, cX6_isNamed, 3, yX6_isNamed, (some .boolean))
def M6_isOwned : zMeth := (6, false, cX6_isOwned, 1, yX6_isOwned, (some .boolean))
def M6_restart : zMeth := (6, false, cX6_restart, 2, yX6_restart, none)
def M7_init : zMeth := (7, true, cX7_init, 1, yX7_init, none)
def M7_append : zMeth := (7, false, cX7_append, 2, yX7_append, (some .int))
def M7_letter : zMeth := (7, false, cX7_letter, 2, yX7_letter, (some .int))
def M7_number : zMeth := (7, false, cX7_number, 3, yX7_number, (some .int))
def M7_findFault : zMeth := (7, false, cX7_findFault, 2, yX7_findFault, (some .int))
def M7_takes : zMeth := (7, false, cX7_takes, 2, yX7_takes, (some .boolean))
def M7_beginsOrder : zMeth := (7, false, cX7_beginsOrder, 3, yX7_beginsOrder, (some .boolean))
def M7_takesDigit : zMeth := (7, false, cX7_takesDigit, 3, yX7_takesDigit, (some .boolean))
def M7_leastNumbers : zMeth := (7, false, cX7_leastNumbers, 1, yX7_leastNumbers, (some .int))
def M7_mostNumbers : zMeth := (7, false, cX7_mostNumbers, 1, yX7_mostNumbers, (some .int))
def M8_init : zMeth := (8, true, cX8_init, 1, yX8_init, none)
def M8_host : zMeth := (8, false, cX8_host, 1, yX8_host, (some .int))
def M8_claims : zMeth := (8, false, cX8_claims, 6, yX8_claims, (some .int))
def M8_shares : zMeth := (8, false, cX8_shares, 6, yX8_shares, (some .int))
def M8_leaves : zMeth := (8, false, cX8_leaves, 3, yX8_leaves, (some .int))
def M8_record : zMeth := (8, false, cX8_record, 4, yX8_record, (some .int))
def M8_of : zMeth := (8, false, cX8_of, 3, yX8_of, (some .int))
def M8_ticks : zMeth := (8, false, cX8_ticks, 2, yX8_ticks, (some .int))
def M8_rate : zMeth := (8, false, cX8_rate, 1, yX8_rate, (some .int))
def M8_asks : zMeth := (8, false, cX8_asks, 4, yX8_asks, (some .int))
def M8_entry : zMeth := (8, false, cX8_entry, 4, yX8_entry, (some .int))
def M8_finds : zMeth := (8, false, cX8_finds, 5, yX8_finds, (some .int))
def M8_owner : zMeth := (8, false, cX8_owner, 4, yX8_owner, (some .int))
def M8_all : zMeth := (8, false, cX8_all, 2, yX8_all, (some .int))
def M8_sleeps : zMeth := (8, false, cX8_sleeps, 3, yX8_sleeps, (some .int))
def M8_wakes : zMeth := (8, false, cX8_wakes, 2, yX8_wakes, (some .int))
def M8_type : zMeth := (8, false, cX8_type, 2, yX8_type, (some .int))
def M8_clear : zMeth := (8, false, cX8_clear, 2, yX8_clear, (some .int))
def M8_reads : zMeth := (8, false, cX8_reads, 4, yX8_reads, (some .int))
def M8_why : zMeth := (8, false, cX8_why, 2, yX8_why, (some .int))
def M8_back : zMeth := (8, false, cX8_back, 1, yX8_back, (some .int))
def M8_told : zMeth := (8, false, cX8_told, 2, yX8_told, (some .int))
def M8_digest : zMeth := (8, false, cX8_digest, 4, yX8_digest, (some .long))
def M8_digestOfHost : zMeth := (8, false, cX8_digestOfHost, 10, yX8_digestOfHost, (some .long))
def M8_isError : zMeth := (8, false, cX8_isError, 1, yX8_isError, (some .boolean))
def M8_counted : zMeth := (8, false, cX8_counted, 2, yX8_counted, (some .int))
def M8_stepped : zMeth := (8, false, cX8_stepped, 2, yX8_stepped, (some .int))
def M8_perform : zMeth := (8, false, cX8_perform, 7, yX8_perform, (some .int))
def M8_bitsOf : zMeth := (8, false, cX8_bitsOf, 4, yX8_bitsOf, (some .int))
def M8_within : zMeth := (8, false, cX8_within, 3, yX8_within, (some .boolean))
def M8_oneIf : zMeth := (8, false, cX8_oneIf, 1, yX8_oneIf, (some .int))
def M9_init : zMeth := (9, true, cX9_init, 1, yX9_init, none)
def M9_in : zMeth := (9, false, cX9_in, 6, yX9_in, (some .boolean))
def M9_refuses : zMeth := (9, false, cX9_refuses, 2, yX9_refuses, (some .int))
def M9_keep : zMeth := (9, false, cX9_keep, 2, yX9_keep, none)
def M9_isHost : zMeth := (9, false, cX9_isHost, 2, yX9_isHost, (some .boolean))
def M9_isAwake : zMeth := (9, false, cX9_isAwake, 2, yX9_isAwake, (some .boolean))
def M9_proxy : zMeth := (9, false, cX9_proxy, 2, yX9_proxy, (some .int))
def M9_records : zMeth := (9, false, cX9_records, 2, yX9_records, (some .int))
def M9_entries : zMeth := (9, false, cX9_entries, 2, yX9_entries, (some .int))
def M9_at : zMeth := (9, false, cX9_at, 2, yX9_at, (some .int))
def M9_kept : zMeth := (9, false, cX9_kept, 2, yX9_kept, (some .int))
def M9_areOne : zMeth := (9, false, cX9_areOne, 3, yX9_areOne, (some .boolean))
def M9_areSame : zMeth := (9, false, cX9_areSame, 3, yX9_areSame, (some .boolean))
def M9_isDefended : zMeth := (9, false, cX9_isDefended, 5, yX9_isDefended, (some .boolean))
def M9_dropsEntry : zMeth := (9, false, cX9_dropsEntry, 4, yX9_dropsEntry, none)
def M9_hasSame : zMeth := (9, false, cX9_hasSame, 5, yX9_hasSame, (some .boolean))
def M9_shortens : zMeth := (9, false, cX9_shortens, 2, yX9_shortens, none)
def M9_hears : zMeth := (9, false, cX9_hears, 5, yX9_hears, none)
def M9_says : zMeth := (9, false, cX9_says, 4, yX9_says, none)
def M9_canHost : zMeth := (9, false, cX9_canHost, 1, yX9_canHost, (some .int))
def M9_hostNow : zMeth := (9, false, cX9_hostNow, 2, yX9_hostNow, (some .int))
def M9_host : zMeth := (9, false, cX9_host, 2, yX9_host, (some .int))
def M9_isName : zMeth := (9, false, cX9_isName, 2, yX9_isName, (some .boolean))
def M9_canRecord : zMeth := (9, false, cX9_canRecord, 8, yX9_canRecord, (some .int))
def M9_recordNow : zMeth := (9, false, cX9_recordNow, 9, yX9_recordNow, (some .int))
def M9_claims : zMeth := (9, false, cX9_claims, 7, yX9_claims, (some .int))
def M9_shares : zMeth := (9, false, cX9_shares, 7, yX9_shares, (some .int))
def M9_isRecord : zMeth := (9, false, cX9_isRecord, 3, yX9_isRecord, (some .boolean))
def M9_canLeave : zMeth := (9, false, cX9_canLeave, 3, yX9_canLeave, (some .int))
def M9_leaveNow : zMeth := (9, false, cX9_leaveNow, 6, yX9_leaveNow, (some .int))
def M9_leaves : zMeth := (9, false, cX9_leaves, 4, yX9_leaves, (some .int))
def M9_recordThen : zMeth := (9, false, cX9_recordThen, 4, yX9_recordThen, (some .int))
def M9_record : zMeth := (9, false, cX9_record, 4, yX9_record, (some .int))
def M9_owned : zMeth := (9, false, cX9_owned, 4, yX9_owned, (some .int))
def M9_stoodFor : zMeth := (9, false, cX9_stoodFor, 4, yX9_stoodFor, (some .int))
def M9_ofNow : zMeth := (9, false, cX9_ofNow, 3, yX9_ofNow, (some .int))
def M9_of : zMeth := (9, false, cX9_of, 3, yX9_of, (some .int))
def M9_ages : zMeth := (9, false, cX9_ages, 3, yX9_ages, none)
def M9_isOpposed : zMeth := (9, false, cX9_isOpposed, 6, yX9_isOpposed, (some .boolean))
def M9_isOutbid : zMeth := (9, false, cX9_isOutbid, 7, yX9_isOutbid, (some .boolean))
def M9_probes : zMeth := (9, false, cX9_probes, 3, yX9_probes, none)
def M9_ticksOne : zMeth := (9, false, cX9_ticksOne, 4, yX9_ticksOne, none)
def M9_tickNow : zMeth := (9, false, cX9_tickNow, 4, yX9_tickNow, (some .int))
def M9_ticks : zMeth := (9, false, cX9_ticks, 2, yX9_ticks, (some .int))
def M9_rateBits : zMeth := (9, false, cX9_rateBits, 1, yX9_rateBits, (some .int))
def M9_rate : zMeth := (9, false, cX9_rate, 1, yX9_rate, (some .int))
def M9_canAsk : zMeth := (9, false, cX9_canAsk, 4, yX9_canAsk, (some .int))
def M9_askNow : zMeth := (9, false, cX9_askNow, 10, yX9_askNow, (some .int))
def M9_asks : zMeth := (9, false, cX9_asks, 5, yX9_asks, (some .int))
def M9_entryNow : zMeth := (9, false, cX9_entryNow, 4, yX9_entryNow, (some .int))
def M9_entry : zMeth := (9, false, cX9_entry, 4, yX9_entry, (some .int))
def M9_findsNow : zMeth := (9, false, cX9_findsNow, 11, yX9_findsNow, (some .int))
def M9_finds : zMeth := (9, false, cX9_finds, 5, yX9_finds, (some .int))
def M9_ownerNow : zMeth := (9, false, cX9_ownerNow, 12, yX9_ownerNow, (some .int))
def M9_owner : zMeth := (9, false, cX9_owner, 4, yX9_owner, (some .int))
def M9_isOwned : zMeth := (9, false, cX9_isOwned, 5, yX9_isOwned, (some .boolean))
def M9_allNow : zMeth := (9, false, cX9_allNow, 5, yX9_allNow, (some .int))
def M9_all : zMeth := (9, false, cX9_all, 2, yX9_all, (some .int))
def M9_canSleep : zMeth := (9, false, cX9_canSleep, 3, yX9_canSleep, (some .int))
def M9_sleepNow : zMeth := (9, false, cX9_sleepNow, 3, yX9_sleepNow, (some .int))
def M9_sleeps : zMeth := (9, false, cX9_sleeps, 4, yX9_sleeps, (some .int))
def M9_canWake : zMeth := (9, false, cX9_canWake, 2, yX9_canWake, (some .int))
def M9_wakeNow : zMeth := (9, false, cX9_wakeNow, 5, yX9_wakeNow, (some .int))
def M9_wakes : zMeth := (9, false, cX9_wakes, 3, yX9_wakes, (some .int))
def M9_type : zMeth := (9, false, cX9_type, 2, yX9_type, (some .int))
def M9_clear : zMeth := (9, false, cX9_clear, 2, yX9_clear, (some .int))
def M9_here : zMeth := (9, false, cX9_here, 1, yX9_here, (some .int))
def M9_isFigure : zMeth := (9, false, cX9_isFigure, 2, yX9_isFigure, (some .boolean))
def M9_takes : zMeth := (9, false, cX9_takes, 4, yX9_takes, (some .boolean))
def M9_numbersOf : zMeth := (9, false, cX9_numbersOf, 1, yX9_numbersOf, (some .int))
def M9_can : zMeth := (9, false, cX9_can, 3, yX9_can, (some .int))
def M9_does : zMeth := (9, false, cX9_does, 3, yX9_does, (some .int))
def M9_readsOrder : zMeth := (9, false, cX9_readsOrder, 5, yX9_readsOrder, (some .boolean))
def M9_reads : zMeth := (9, false, cX9_reads, 3, yX9_reads, (some .int))
def M9_setsAside : zMeth := (9, false, cX9_setsAside, 2, yX9_setsAside, none)
def M9_takesAside : zMeth := (9, false, cX9_takesAside, 2, yX9_takesAside, none)
def M9_keepsAside : zMeth := (9, false, cX9_keepsAside, 3, yX9_keepsAside, none)
def M9_why : zMeth := (9, false, cX9_why, 3, yX9_why, (some .int))
def M9_back : zMeth := (9, false, cX9_back, 2, yX9_back, (some .int))
def M9_toldOf : zMeth := (9, false, cX9_toldOf, 2, yX9_toldOf, (some .int))
def M9_told : zMeth := (9, false, cX9_told, 2, yX9_told, (some .int))
def M9_digest : zMeth := (9, false, cX9_digest, 5, yX9_digest, (some .long))
def M12_isNaN : zMeth := (12, false, cJxf58ca_isNaN_12338, 1, yJxf58ca_isNaN_12338, (some .boolean))
def M12_floatToIntBits : zMeth := (12, false, cJxf58ca_floatToIntBits_5c35a, 1, yJxf58ca_floatToIntBits_5c35a, (some .int))
def M11_max : zMeth := (11, false, cJ9_max_7cf53, 2, yJ9_max_7cf53, (some .int))
def M11_min : zMeth := (11, false, cJ9_min_7cf53, 2, yJ9_min_7cf53, (some .int))
def M10_law : zMeth := (10, false, cL_law, 4, yL_law, (some .boolean))
theorem my_0_init : zYs M0_init 0 := ⟨(zin 143 (by decide +kernel) rfl), (zin 63 (by decide +kernel) rfl), ⟨by decide, by decide, by decide +kernel⟩, by decide, rfl⟩
theorem my_0_become : zYs M0_become 1 := ⟨(zin 365 (by decide +kernel) rfl), (zin 63 (by decide +kernel) rfl), ⟨by decide, by decide, by decide +kernel⟩, by decide, rfl⟩
theorem my_0_indexOf : zYs M0_indexOf 3 := ⟨(zin 450 (by decide +kernel) rfl), (zin 63 (by decide +kernel) rfl), ⟨by decide, by decide, by decide +kernel⟩, by decide, rfl⟩
theorem my_0_removeAt : zYs M0_removeAt 1 := ⟨(zin 454 (by decide +kernel) rfl), (zin 63 (by decide +kernel) rfl), ⟨by decide, by decide, by decide +kernel⟩, by decide, rfl⟩
theorem my_0_removeEnded : zYs M0_removeEnded 1 := ⟨(zin 538 (by decide +kernel) rfl), (zin 63 (by decide +kernel) rfl), ⟨by decide, by decide, by decide +kernel⟩, by decide, rfl⟩
theorem my_0_learn : zYs M0_learn 2 := ⟨(zin 446 (by decide +kernel) rfl), (zin 63 (by decide +kernel) rfl), ⟨by decide, by decide, by decide +kernel⟩, by decide, rfl⟩
theorem my_0_endRivals : zYs M0_endRivals 2 := ⟨(zin 458 (by decide +kernel) rfl), (zin 63 (by decide +kernel) rfl), ⟨by decide, by decide, by decide +kernel⟩, by decide, rfl⟩
theorem my_0_endOf : zYs M0_endOf 2 := ⟨(zin 485 (by decide +kernel) rfl), (zin 63 (by decide +kernel) rfl), ⟨by decide, by decide, by decide +kernel⟩, by decide, rfl⟩
theorem my_0_noteKnown : zYs M0_noteKnown 4 := ⟨(zin 594 (by decide +kernel) rfl), (zin 63 (by decide +kernel) rfl), ⟨by decide, by decide, by decide +kernel⟩, by decide, rfl⟩
theorem my_0_newestData : zYs M0_newestData 2 := ⟨(zin 633 (by decide +kernel) rfl), (zin 63 (by decide +kernel) rfl), ⟨by decide, by decide, by decide +kernel⟩, by decide, rfl⟩
theorem my_0_countOf : zYs M0_countOf 2 := ⟨(zin 637 (by decide +kernel) rfl), (zin 63 (by decide +kernel) rfl), ⟨by decide, by decide, by decide +kernel⟩, by decide, rfl⟩
theorem my_0_longestLeft : zYs M0_longestLeft 3 := ⟨(zin 642 (by decide +kernel) rfl), (zin 63 (by decide +kernel) rfl), ⟨by decide, by decide, by decide +kernel⟩, by decide, rfl⟩
theorem my_1_init : zYs M1_init 0 := ⟨(zin 213 (by decide +kernel) rfl), (zin 65 (by decide +kernel) rfl), ⟨by decide, by decide, by decide +kernel⟩, by decide, rfl⟩
theorem my_1_empty : zYs M1_empty 0 := ⟨(zin 590 (by decide +kernel) rfl), (zin 65 (by decide +kernel) rfl), ⟨by decide, by decide, by decide +kernel⟩, by decide, rfl⟩
theorem my_1_add : zYs M1_add 1 := ⟨(zin 602 (by decide +kernel) rfl), (zin 65 (by decide +kernel) rfl), ⟨by decide, by decide, by decide +kernel⟩, by decide, rfl⟩
theorem my_1_has : zYs M1_has 1 := ⟨(zin 612 (by decide +kernel) rfl), (zin 65 (by decide +kernel) rfl), ⟨by decide, by decide, by decide +kernel⟩, by decide, rfl⟩
theorem my_2_init : zYs M2_init 0 := ⟨(zin 150 (by decide +kernel) rfl), (zin 64 (by decide +kernel) rfl), ⟨by decide, by decide, by decide +kernel⟩, by decide, rfl⟩
theorem my_2_become : zYs M2_become 1 := ⟨(zin 369 (by decide +kernel) rfl), (zin 64 (by decide +kernel) rfl), ⟨by decide, by decide, by decide +kernel⟩, by decide, rfl⟩
theorem my_2_isNamed : zYs M2_isNamed 2 := ⟨(zin 598 (by decide +kernel) rfl), (zin 64 (by decide +kernel) rfl), ⟨by decide, by decide, by decide +kernel⟩, by decide, rfl⟩
theorem my_3_init : zYs M3_init 0 := ⟨(zin 262 (by decide +kernel) rfl), (zin 66 (by decide +kernel) rfl), ⟨by decide, by decide, by decide +kernel⟩, by decide, rfl⟩
theorem my_3_behindNewest : zYs M3_behindNewest 0 := ⟨(zin 349 (by decide +kernel) rfl), (zin 66 (by decide +kernel) rfl), ⟨by decide, by decide, by decide +kernel⟩, by decide, rfl⟩
theorem my_3_draft : zYs M3_draft 1 := ⟨(zin 345 (by decide +kernel) rfl), (zin 66 (by decide +kernel) rfl), ⟨by decide, by decide, by decide +kernel⟩, by decide, rfl⟩
theorem my_3_restoreDraft : zYs M3_restoreDraft 1 := ⟨(zin 749 (by decide +kernel) rfl), (zin 66 (by decide +kernel) rfl), ⟨by decide, by decide, by decide +kernel⟩, by decide, rfl⟩
theorem my_3_keepDraft : zYs M3_keepDraft 0 := ⟨(zin 388 (by decide +kernel) rfl), (zin 66 (by decide +kernel) rfl), ⟨by decide, by decide, by decide +kernel⟩, by decide, rfl⟩
theorem my_3_goBack : zYs M3_goBack 1 := ⟨(zin 761 (by decide +kernel) rfl), (zin 66 (by decide +kernel) rfl), ⟨by decide, by decide, by decide +kernel⟩, by decide, rfl⟩
theorem my_4_init : zYs M4_init 0 := ⟨(zin 90 (by decide +kernel) rfl), (zin 61 (by decide +kernel) rfl), ⟨by decide, by decide, by decide +kernel⟩, by decide, rfl⟩
theorem my_4_begin : zYs M4_begin 0 := ⟨(zin 377 (by decide +kernel) rfl), (zin 61 (by decide +kernel) rfl), ⟨by decide, by decide, by decide +kernel⟩, by decide, rfl⟩
theorem my_4_become : zYs M4_become 1 := ⟨(zin 357 (by decide +kernel) rfl), (zin 61 (by decide +kernel) rfl), ⟨by decide, by decide, by decide +kernel⟩, by decide, rfl⟩
theorem my_4_add : zYs M4_add 4 := ⟨(zin 426 (by decide +kernel) rfl), (zin 61 (by decide +kernel) rfl), ⟨by decide, by decide, by decide +kernel⟩, by decide, rfl⟩
theorem my_4_takeOut : zYs M4_takeOut 1 := ⟨(zin 477 (by decide +kernel) rfl), (zin 61 (by decide +kernel) rfl), ⟨by decide, by decide, by decide +kernel⟩, by decide, rfl⟩
theorem my_4_hasNamed : zYs M4_hasNamed 2 := ⟨(zin 418 (by decide +kernel) rfl), (zin 61 (by decide +kernel) rfl), ⟨by decide, by decide, by decide +kernel⟩, by decide, rfl⟩
theorem my_4_has : zYs M4_has 3 := ⟨(zin 442 (by decide +kernel) rfl), (zin 61 (by decide +kernel) rfl), ⟨by decide, by decide, by decide +kernel⟩, by decide, rfl⟩
theorem my_4_owns : zYs M4_owns 3 := ⟨(zin 678 (by decide +kernel) rfl), (zin 61 (by decide +kernel) rfl), ⟨by decide, by decide, by decide +kernel⟩, by decide, rfl⟩
theorem my_4_ownedCount : zYs M4_ownedCount 0 := ⟨(zin 516 (by decide +kernel) rfl), (zin 61 (by decide +kernel) rfl), ⟨by decide, by decide, by decide +kernel⟩, by decide, rfl⟩
theorem my_4_firstSole : zYs M4_firstSole 2 := ⟨(zin 657 (by decide +kernel) rfl), (zin 61 (by decide +kernel) rfl), ⟨by decide, by decide, by decide +kernel⟩, by decide, rfl⟩
theorem my_4_ownsRivalOf : zYs M4_ownsRivalOf 1 := ⟨(zin 550 (by decide +kernel) rfl), (zin 61 (by decide +kernel) rfl), ⟨by decide, by decide, by decide +kernel⟩, by decide, rfl⟩
theorem my_4_outbids : zYs M4_outbids 1 := ⟨(zin 562 (by decide +kernel) rfl), (zin 61 (by decide +kernel) rfl), ⟨by decide, by decide, by decide +kernel⟩, by decide, rfl⟩
theorem my_5_init : zYs M5_init 0 := ⟨(zin 83 (by decide +kernel) rfl), (zin 60 (by decide +kernel) rfl), ⟨by decide, by decide, by decide +kernel⟩, by decide, rfl⟩
theorem my_5_become : zYs M5_become 1 := ⟨(zin 353 (by decide +kernel) rfl), (zin 60 (by decide +kernel) rfl), ⟨by decide, by decide, by decide +kernel⟩, by decide, rfl⟩
theorem my_5_isHost : zYs M5_isHost 1 := ⟨(zin 408 (by decide +kernel) rfl), (zin 60 (by decide +kernel) rfl), ⟨by decide, by decide, by decide +kernel⟩, by decide, rfl⟩
theorem my_5_isRecord : zYs M5_isRecord 2 := ⟨(zin 473 (by decide +kernel) rfl), (zin 60 (by decide +kernel) rfl), ⟨by decide, by decide, by decide +kernel⟩, by decide, rfl⟩
theorem my_5_isName : zYs M5_isName 2 := ⟨(zin 411 (by decide +kernel) rfl), (zin 60 (by decide +kernel) rfl), ⟨by decide, by decide, by decide +kernel⟩, by decide, rfl⟩
theorem my_5_addHost : zYs M5_addHost 0 := ⟨(zin 373 (by decide +kernel) rfl), (zin 60 (by decide +kernel) rfl), ⟨by decide, by decide, by decide +kernel⟩, by decide, rfl⟩
theorem my_5_claim : zYs M5_claim 5 := ⟨(zin 400 (by decide +kernel) rfl), (zin 60 (by decide +kernel) rfl), ⟨by decide, by decide, by decide +kernel⟩, by decide, rfl⟩
theorem my_5_share : zYs M5_share 5 := ⟨(zin 434 (by decide +kernel) rfl), (zin 60 (by decide +kernel) rfl), ⟨by decide, by decide, by decide +kernel⟩, by decide, rfl⟩
theorem my_5_errorOfAdding : zYs M5_errorOfAdding 5 := ⟨(zin 404 (by decide +kernel) rfl), (zin 60 (by decide +kernel) rfl), ⟨by decide, by decide, by decide +kernel⟩, by decide, rfl⟩
theorem my_5_sayGoodbye : zYs M5_sayGoodbye 2 := ⟨(zin 469 (by decide +kernel) rfl), (zin 60 (by decide +kernel) rfl), ⟨by decide, by decide, by decide +kernel⟩, by decide, rfl⟩
theorem my_5_announce : zYs M5_announce 2 := ⟨(zin 438 (by decide +kernel) rfl), (zin 60 (by decide +kernel) rfl), ⟨by decide, by decide, by decide +kernel⟩, by decide, rfl⟩
theorem my_5_speakerFor : zYs M5_speakerFor 1 := ⟨(zin 504 (by decide +kernel) rfl), (zin 60 (by decide +kernel) rfl), ⟨by decide, by decide, by decide +kernel⟩, by decide, rfl⟩
theorem my_5_isDefended : zYs M5_isDefended 2 := ⟨(zin 500 (by decide +kernel) rfl), (zin 60 (by decide +kernel) rfl), ⟨by decide, by decide, by decide +kernel⟩, by decide, rfl⟩
theorem my_5_passTicks : zYs M5_passTicks 1 := ⟨(zin 530 (by decide +kernel) rfl), (zin 60 (by decide +kernel) rfl), ⟨by decide, by decide, by decide +kernel⟩, by decide, rfl⟩
theorem my_5_beginTick : zYs M5_beginTick 0 := ⟨(zin 534 (by decide +kernel) rfl), (zin 60 (by decide +kernel) rfl), ⟨by decide, by decide, by decide +kernel⟩, by decide, rfl⟩
theorem my_5_measureRate : zYs M5_measureRate 0 := ⟨(zin 566 (by decide +kernel) rfl), (zin 60 (by decide +kernel) rfl), ⟨by decide, by decide, by decide +kernel⟩, by decide, rfl⟩
theorem my_5_advance : zYs M5_advance 2 := ⟨(zin 542 (by decide +kernel) rfl), (zin 60 (by decide +kernel) rfl), ⟨by decide, by decide, by decide +kernel⟩, by decide, rfl⟩
theorem my_5_isTaken : zYs M5_isTaken 2 := ⟨(zin 546 (by decide +kernel) rfl), (zin 60 (by decide +kernel) rfl), ⟨by decide, by decide, by decide +kernel⟩, by decide, rfl⟩
theorem my_5_isOutbid : zYs M5_isOutbid 2 := ⟨(zin 558 (by decide +kernel) rfl), (zin 60 (by decide +kernel) rfl), ⟨by decide, by decide, by decide +kernel⟩, by decide, rfl⟩
theorem my_5_ask : zYs M5_ask 3 := ⟨(zin 586 (by decide +kernel) rfl), (zin 60 (by decide +kernel) rfl), ⟨by decide, by decide, by decide +kernel⟩, by decide, rfl⟩
theorem my_5_answerFor : zYs M5_answerFor 3 := ⟨(zin 607 (by decide +kernel) rfl), (zin 60 (by decide +kernel) rfl), ⟨by decide, by decide, by decide +kernel⟩, by decide, rfl⟩
theorem my_5_fallAsleep : zYs M5_fallAsleep 2 := ⟨(zin 686 (by decide +kernel) rfl), (zin 60 (by decide +kernel) rfl), ⟨by decide, by decide, by decide +kernel⟩, by decide, rfl⟩
theorem my_5_wakeUp : zYs M5_wakeUp 1 := ⟨(zin 694 (by decide +kernel) rfl), (zin 60 (by decide +kernel) rfl), ⟨by decide, by decide, by decide +kernel⟩, by decide, rfl⟩
theorem my_5_recordProperty : zYs M5_recordProperty 3 := ⟨(zin 493 (by decide +kernel) rfl), (zin 60 (by decide +kernel) rfl), ⟨by decide, by decide, by decide +kernel⟩, by decide, rfl⟩
theorem my_5_hostProperty : zYs M5_hostProperty 2 := ⟨(zin 512 (by decide +kernel) rfl), (zin 60 (by decide +kernel) rfl), ⟨by decide, by decide, by decide +kernel⟩, by decide, rfl⟩
theorem my_5_hostsWithProxy : zYs M5_hostsWithProxy 1 := ⟨(zin 522 (by decide +kernel) rfl), (zin 60 (by decide +kernel) rfl), ⟨by decide, by decide, by decide +kernel⟩, by decide, rfl⟩
theorem my_5_entryProperty : zYs M5_entryProperty 3 := ⟨(zin 621 (by decide +kernel) rfl), (zin 60 (by decide +kernel) rfl), ⟨by decide, by decide, by decide +kernel⟩, by decide, rfl⟩
theorem my_5_lookUp : zYs M5_lookUp 4 := ⟨(zin 629 (by decide +kernel) rfl), (zin 60 (by decide +kernel) rfl), ⟨by decide, by decide, by decide +kernel⟩, by decide, rfl⟩
theorem my_5_defender : zYs M5_defender 3 := ⟨(zin 653 (by decide +kernel) rfl), (zin 60 (by decide +kernel) rfl), ⟨by decide, by decide, by decide +kernel⟩, by decide, rfl⟩
theorem my_5_total : zYs M5_total 1 := ⟨(zin 666 (by decide +kernel) rfl), (zin 60 (by decide +kernel) rfl), ⟨by decide, by decide, by decide +kernel⟩, by decide, rfl⟩
theorem my_5_staleEntries : zYs M5_staleEntries 1 := ⟨(zin 670 (by decide +kernel) rfl), (zin 60 (by decide +kernel) rfl), ⟨by decide, by decide, by decide +kernel⟩, by decide, rfl⟩
theorem my_5_isOwnedByAny : zYs M5_isOwnedByAny 1 := ⟨(zin 674 (by decide +kernel) rfl), (zin 60 (by decide +kernel) rfl), ⟨by decide, by decide, by decide +kernel⟩, by decide, rfl⟩
theorem my_6_init : zYs M6_init 0 := ⟨(zin 97 (by decide +kernel) rfl), (zin 62 (by decide +kernel) rfl), ⟨by decide, by decide, by decide +kernel⟩, by decide, rfl⟩
theorem my_6_become : zYs M6_become 1 := ⟨(zin 361 (by decide +kernel) rfl), (zin 62 (by decide +kernel) rfl), ⟨by decide, by decide, by decide +kernel⟩, by decide, rfl⟩
theorem my_6_isNamed : zYs M6_isNamed 2 := ⟨(zin 422 (by decide +kernel) rfl), (zin 62 (by decide +kernel) rfl), ⟨by decide, by decide, by decide +kernel⟩, by decide, rfl⟩
theorem my_6_isOwned : zYs M6_isOwned 0 := ⟨(zin 481 (by decide +kernel) rfl), (zin 62 (by decide +kernel) rfl), ⟨by decide, by decide, by decide +kernel⟩, by decide, rfl⟩
theorem my_6_restart : zYs M6_restart 1 := ⟨(zin 554 (by decide +kernel) rfl), (zin 62 (by decide +kernel) rfl), ⟨by decide, by decide, by decide +kernel⟩, by decide, rfl⟩
theorem my_7_init : zYs M7_init 0 := ⟨(zin 282 (by decide +kernel) rfl), (zin 67 (by decide +kernel) rfl), ⟨by decide, by decide, by decide +kernel⟩, by decide, rfl⟩
theorem my_7_append : zYs M7_append 1 := ⟨(zin 702 (by decide +kernel) rfl), (zin 67 (by decide +kernel) rfl), ⟨by decide, by decide, by decide +kernel⟩, by decide, rfl⟩
theorem my_7_letter : zYs M7_letter 1 := ⟨(zin 745 (by decide +kernel) rfl), (zin 67 (by decide +kernel) rfl), ⟨by decide, by decide, by decide +kernel⟩, by decide, rfl⟩
theorem my_7_number : zYs M7_number 2 := ⟨(zin 741 (by decide +kernel) rfl), (zin 67 (by decide +kernel) rfl), ⟨by decide, by decide, by decide +kernel⟩, by decide, rfl⟩
theorem my_7_findFault : zYs M7_findFault 0 := ⟨(zin 715 (by decide +kernel) rfl), (zin 67 (by decide +kernel) rfl), ⟨by decide, by decide, by decide +kernel⟩, by decide, rfl⟩
theorem my_7_takes : zYs M7_takes 1 := ⟨(zin 719 (by decide +kernel) rfl), (zin 67 (by decide +kernel) rfl), ⟨by decide, by decide, by decide +kernel⟩, by decide, rfl⟩
theorem my_7_beginsOrder : zYs M7_beginsOrder 1 := ⟨(zin 723 (by decide +kernel) rfl), (zin 67 (by decide +kernel) rfl), ⟨by decide, by decide, by decide +kernel⟩, by decide, rfl⟩
theorem my_7_takesDigit : zYs M7_takesDigit 1 := ⟨(zin 730 (by decide +kernel) rfl), (zin 67 (by decide +kernel) rfl), ⟨by decide, by decide, by decide +kernel⟩, by decide, rfl⟩
theorem my_7_leastNumbers : zYs M7_leastNumbers 1 := ⟨(zin 726 (by decide +kernel) rfl), (zin 67 (by decide +kernel) rfl), ⟨by decide, by decide, by decide +kernel⟩, by decide, rfl⟩
theorem my_7_mostNumbers : zYs M7_mostNumbers 1 := ⟨(zin 733 (by decide +kernel) rfl), (zin 67 (by decide +kernel) rfl), ⟨by decide, by decide, by decide +kernel⟩, by decide, rfl⟩
theorem my_8_init : zYs M8_init 0 := ⟨(zin 75 (by decide +kernel) rfl), (zin 59 (by decide +kernel) rfl), ⟨by decide, by decide, by decide +kernel⟩, by decide, rfl⟩
theorem my_8_host : zYs M8_host 0 := ⟨(zin 341 (by decide +kernel) rfl), (zin 59 (by decide +kernel) rfl), ⟨by decide, by decide, by decide +kernel⟩, by decide, rfl⟩
theorem my_8_claims : zYs M8_claims 5 := ⟨(zin 396 (by decide +kernel) rfl), (zin 59 (by decide +kernel) rfl), ⟨by decide, by decide, by decide +kernel⟩, by decide, rfl⟩
theorem my_8_shares : zYs M8_shares 5 := ⟨(zin 430 (by decide +kernel) rfl), (zin 59 (by decide +kernel) rfl), ⟨by decide, by decide, by decide +kernel⟩, by decide, rfl⟩
theorem my_8_leaves : zYs M8_leaves 2 := ⟨(zin 465 (by decide +kernel) rfl), (zin 59 (by decide +kernel) rfl), ⟨by decide, by decide, by decide +kernel⟩, by decide, rfl⟩
theorem my_8_record : zYs M8_record 3 := ⟨(zin 489 (by decide +kernel) rfl), (zin 59 (by decide +kernel) rfl), ⟨by decide, by decide, by decide +kernel⟩, by decide, rfl⟩
theorem my_8_of : zYs M8_of 2 := ⟨(zin 508 (by decide +kernel) rfl), (zin 59 (by decide +kernel) rfl), ⟨by decide, by decide, by decide +kernel⟩, by decide, rfl⟩
theorem my_8_ticks : zYs M8_ticks 1 := ⟨(zin 526 (by decide +kernel) rfl), (zin 59 (by decide +kernel) rfl), ⟨by decide, by decide, by decide +kernel⟩, by decide, rfl⟩
theorem my_8_rate : zYs M8_rate 0 := ⟨(zin 572 (by decide +kernel) rfl), (zin 59 (by decide +kernel) rfl), ⟨by decide, by decide, by decide +kernel⟩, by decide, rfl⟩
theorem my_8_asks : zYs M8_asks 3 := ⟨(zin 582 (by decide +kernel) rfl), (zin 59 (by decide +kernel) rfl), ⟨by decide, by decide, by decide +kernel⟩, by decide, rfl⟩
theorem my_8_entry : zYs M8_entry 3 := ⟨(zin 617 (by decide +kernel) rfl), (zin 59 (by decide +kernel) rfl), ⟨by decide, by decide, by decide +kernel⟩, by decide, rfl⟩
theorem my_8_finds : zYs M8_finds 4 := ⟨(zin 625 (by decide +kernel) rfl), (zin 59 (by decide +kernel) rfl), ⟨by decide, by decide, by decide +kernel⟩, by decide, rfl⟩
theorem my_8_owner : zYs M8_owner 3 := ⟨(zin 649 (by decide +kernel) rfl), (zin 59 (by decide +kernel) rfl), ⟨by decide, by decide, by decide +kernel⟩, by decide, rfl⟩
theorem my_8_all : zYs M8_all 1 := ⟨(zin 662 (by decide +kernel) rfl), (zin 59 (by decide +kernel) rfl), ⟨by decide, by decide, by decide +kernel⟩, by decide, rfl⟩
theorem my_8_sleeps : zYs M8_sleeps 2 := ⟨(zin 682 (by decide +kernel) rfl), (zin 59 (by decide +kernel) rfl), ⟨by decide, by decide, by decide +kernel⟩, by decide, rfl⟩
theorem my_8_wakes : zYs M8_wakes 1 := ⟨(zin 690 (by decide +kernel) rfl), (zin 59 (by decide +kernel) rfl), ⟨by decide, by decide, by decide +kernel⟩, by decide, rfl⟩
theorem my_8_type : zYs M8_type 1 := ⟨(zin 698 (by decide +kernel) rfl), (zin 59 (by decide +kernel) rfl), ⟨by decide, by decide, by decide +kernel⟩, by decide, rfl⟩
theorem my_8_clear : zYs M8_clear 0 := ⟨(zin 707 (by decide +kernel) rfl), (zin 59 (by decide +kernel) rfl), ⟨by decide, by decide, by decide +kernel⟩, by decide, rfl⟩
theorem my_8_reads : zYs M8_reads 0 := ⟨(zin 711 (by decide +kernel) rfl), (zin 59 (by decide +kernel) rfl), ⟨by decide, by decide, by decide +kernel⟩, by decide, rfl⟩
theorem my_8_why : zYs M8_why 1 := ⟨(zin 753 (by decide +kernel) rfl), (zin 59 (by decide +kernel) rfl), ⟨by decide, by decide, by decide +kernel⟩, by decide, rfl⟩
theorem my_8_back : zYs M8_back 0 := ⟨(zin 757 (by decide +kernel) rfl), (zin 59 (by decide +kernel) rfl), ⟨by decide, by decide, by decide +kernel⟩, by decide, rfl⟩
theorem my_8_told : zYs M8_told 1 := ⟨(zin 766 (by decide +kernel) rfl), (zin 59 (by decide +kernel) rfl), ⟨by decide, by decide, by decide +kernel⟩, by decide, rfl⟩
theorem my_8_digest : zYs M8_digest 0 := ⟨(zin 770 (by decide +kernel) rfl), (zin 59 (by decide +kernel) rfl), ⟨by decide, by decide, by decide +kernel⟩, by decide, rfl⟩
theorem my_8_digestOfHost : zYs M8_digestOfHost 2 := ⟨(zin 778 (by decide +kernel) rfl), (zin 59 (by decide +kernel) rfl), ⟨by decide, by decide, by decide +kernel⟩, by decide, rfl⟩
theorem my_8_isError : zYs M8_isError 1 := ⟨(zin 384 (by decide +kernel) rfl), (zin 59 (by decide +kernel) rfl), ⟨by decide, by decide, by decide +kernel⟩, by decide, rfl⟩
theorem my_8_counted : zYs M8_counted 1 := ⟨(zin 392 (by decide +kernel) rfl), (zin 59 (by decide +kernel) rfl), ⟨by decide, by decide, by decide +kernel⟩, by decide, rfl⟩
theorem my_8_stepped : zYs M8_stepped 1 := ⟨(zin 381 (by decide +kernel) rfl), (zin 59 (by decide +kernel) rfl), ⟨by decide, by decide, by decide +kernel⟩, by decide, rfl⟩
theorem my_8_perform : zYs M8_perform 1 := ⟨(zin 737 (by decide +kernel) rfl), (zin 59 (by decide +kernel) rfl), ⟨by decide, by decide, by decide +kernel⟩, by decide, rfl⟩
theorem my_8_bitsOf : zYs M8_bitsOf 1 := ⟨(zin 575 (by decide +kernel) rfl), (zin 59 (by decide +kernel) rfl), ⟨by decide, by decide, by decide +kernel⟩, by decide, rfl⟩
theorem my_8_within : zYs M8_within 3 := ⟨(zin 414 (by decide +kernel) rfl), (zin 59 (by decide +kernel) rfl), ⟨by decide, by decide, by decide +kernel⟩, by decide, rfl⟩
theorem my_8_oneIf : zYs M8_oneIf 1 := ⟨(zin 496 (by decide +kernel) rfl), (zin 59 (by decide +kernel) rfl), ⟨by decide, by decide, by decide +kernel⟩, by decide, rfl⟩
theorem my_9_init : zYs M9_init 0 := ⟨(zin 788 (by decide +kernel) rfl), (zin 68 (by decide +kernel) rfl), ⟨by decide, by decide, by decide +kernel⟩, by decide, rfl⟩
theorem my_9_in : zYs M9_in 3 := ⟨(zin 875 (by decide +kernel) rfl), (zin 68 (by decide +kernel) rfl), ⟨by decide, by decide, by decide +kernel⟩, by decide, rfl⟩
theorem my_9_refuses : zYs M9_refuses 1 := ⟨(zin 852 (by decide +kernel) rfl), (zin 68 (by decide +kernel) rfl), ⟨by decide, by decide, by decide +kernel⟩, by decide, rfl⟩
theorem my_9_keep : zYs M9_keep 0 := ⟨(zin 856 (by decide +kernel) rfl), (zin 68 (by decide +kernel) rfl), ⟨by decide, by decide, by decide +kernel⟩, by decide, rfl⟩
theorem my_9_isHost : zYs M9_isHost 1 := ⟨(zin 872 (by decide +kernel) rfl), (zin 68 (by decide +kernel) rfl), ⟨by decide, by decide, by decide +kernel⟩, by decide, rfl⟩
theorem my_9_isAwake : zYs M9_isAwake 1 := ⟨(zin 894 (by decide +kernel) rfl), (zin 68 (by decide +kernel) rfl), ⟨by decide, by decide, by decide +kernel⟩, by decide, rfl⟩
theorem my_9_proxy : zYs M9_proxy 1 := ⟨(zin 970 (by decide +kernel) rfl), (zin 68 (by decide +kernel) rfl), ⟨by decide, by decide, by decide +kernel⟩, by decide, rfl⟩
theorem my_9_records : zYs M9_records 1 := ⟨(zin 887 (by decide +kernel) rfl), (zin 68 (by decide +kernel) rfl), ⟨by decide, by decide, by decide +kernel⟩, by decide, rfl⟩
theorem my_9_entries : zYs M9_entries 1 := ⟨(zin 922 (by decide +kernel) rfl), (zin 68 (by decide +kernel) rfl), ⟨by decide, by decide, by decide +kernel⟩, by decide, rfl⟩
theorem my_9_at : zYs M9_at 2 := ⟨(zin 890 (by decide +kernel) rfl), (zin 68 (by decide +kernel) rfl), ⟨by decide, by decide, by decide +kernel⟩, by decide, rfl⟩
theorem my_9_kept : zYs M9_kept 2 := ⟨(zin 925 (by decide +kernel) rfl), (zin 68 (by decide +kernel) rfl), ⟨by decide, by decide, by decide +kernel⟩, by decide, rfl⟩
theorem my_9_areOne : zYs M9_areOne 2 := ⟨(zin 918 (by decide +kernel) rfl), (zin 68 (by decide +kernel) rfl), ⟨by decide, by decide, by decide +kernel⟩, by decide, rfl⟩
theorem my_9_areSame : zYs M9_areSame 2 := ⟨(zin 914 (by decide +kernel) rfl), (zin 68 (by decide +kernel) rfl), ⟨by decide, by decide, by decide +kernel⟩, by decide, rfl⟩
theorem my_9_isDefended : zYs M9_isDefended 2 := ⟨(zin 966 (by decide +kernel) rfl), (zin 68 (by decide +kernel) rfl), ⟨by decide, by decide, by decide +kernel⟩, by decide, rfl⟩
theorem my_9_dropsEntry : zYs M9_dropsEntry 2 := ⟨(zin 929 (by decide +kernel) rfl), (zin 68 (by decide +kernel) rfl), ⟨by decide, by decide, by decide +kernel⟩, by decide, rfl⟩
theorem my_9_hasSame : zYs M9_hasSame 2 := ⟨(zin 910 (by decide +kernel) rfl), (zin 68 (by decide +kernel) rfl), ⟨by decide, by decide, by decide +kernel⟩, by decide, rfl⟩
theorem my_9_shortens : zYs M9_shortens 1 := ⟨(zin 933 (by decide +kernel) rfl), (zin 68 (by decide +kernel) rfl), ⟨by decide, by decide, by decide +kernel⟩, by decide, rfl⟩
theorem my_9_hears : zYs M9_hears 2 := ⟨(zin 906 (by decide +kernel) rfl), (zin 68 (by decide +kernel) rfl), ⟨by decide, by decide, by decide +kernel⟩, by decide, rfl⟩
theorem my_9_says : zYs M9_says 2 := ⟨(zin 902 (by decide +kernel) rfl), (zin 68 (by decide +kernel) rfl), ⟨by decide, by decide, by decide +kernel⟩, by decide, rfl⟩
theorem my_9_canHost : zYs M9_canHost 0 := ⟨(zin 848 (by decide +kernel) rfl), (zin 68 (by decide +kernel) rfl), ⟨by decide, by decide, by decide +kernel⟩, by decide, rfl⟩
theorem my_9_hostNow : zYs M9_hostNow 0 := ⟨(zin 860 (by decide +kernel) rfl), (zin 68 (by decide +kernel) rfl), ⟨by decide, by decide, by decide +kernel⟩, by decide, rfl⟩
theorem my_9_host : zYs M9_host 0 := ⟨(zin 844 (by decide +kernel) rfl), (zin 68 (by decide +kernel) rfl), ⟨by decide, by decide, by decide +kernel⟩, by decide, rfl⟩
theorem my_9_isName : zYs M9_isName 2 := ⟨(zin 878 (by decide +kernel) rfl), (zin 68 (by decide +kernel) rfl), ⟨by decide, by decide, by decide +kernel⟩, by decide, rfl⟩
theorem my_9_canRecord : zYs M9_canRecord 5 := ⟨(zin 868 (by decide +kernel) rfl), (zin 68 (by decide +kernel) rfl), ⟨by decide, by decide, by decide +kernel⟩, by decide, rfl⟩
theorem my_9_recordNow : zYs M9_recordNow 6 := ⟨(zin 898 (by decide +kernel) rfl), (zin 68 (by decide +kernel) rfl), ⟨by decide, by decide, by decide +kernel⟩, by decide, rfl⟩
theorem my_9_claims : zYs M9_claims 5 := ⟨(zin 864 (by decide +kernel) rfl), (zin 68 (by decide +kernel) rfl), ⟨by decide, by decide, by decide +kernel⟩, by decide, rfl⟩
theorem my_9_shares : zYs M9_shares 5 := ⟨(zin 937 (by decide +kernel) rfl), (zin 68 (by decide +kernel) rfl), ⟨by decide, by decide, by decide +kernel⟩, by decide, rfl⟩
theorem my_9_isRecord : zYs M9_isRecord 2 := ⟨(zin 949 (by decide +kernel) rfl), (zin 68 (by decide +kernel) rfl), ⟨by decide, by decide, by decide +kernel⟩, by decide, rfl⟩
theorem my_9_canLeave : zYs M9_canLeave 2 := ⟨(zin 945 (by decide +kernel) rfl), (zin 68 (by decide +kernel) rfl), ⟨by decide, by decide, by decide +kernel⟩, by decide, rfl⟩
theorem my_9_leaveNow : zYs M9_leaveNow 2 := ⟨(zin 953 (by decide +kernel) rfl), (zin 68 (by decide +kernel) rfl), ⟨by decide, by decide, by decide +kernel⟩, by decide, rfl⟩
theorem my_9_leaves : zYs M9_leaves 2 := ⟨(zin 941 (by decide +kernel) rfl), (zin 68 (by decide +kernel) rfl), ⟨by decide, by decide, by decide +kernel⟩, by decide, rfl⟩
theorem my_9_recordThen : zYs M9_recordThen 3 := ⟨(zin 962 (by decide +kernel) rfl), (zin 68 (by decide +kernel) rfl), ⟨by decide, by decide, by decide +kernel⟩, by decide, rfl⟩
theorem my_9_record : zYs M9_record 3 := ⟨(zin 957 (by decide +kernel) rfl), (zin 68 (by decide +kernel) rfl), ⟨by decide, by decide, by decide +kernel⟩, by decide, rfl⟩
theorem my_9_owned : zYs M9_owned 1 := ⟨(zin 983 (by decide +kernel) rfl), (zin 68 (by decide +kernel) rfl), ⟨by decide, by decide, by decide +kernel⟩, by decide, rfl⟩
theorem my_9_stoodFor : zYs M9_stoodFor 1 := ⟨(zin 987 (by decide +kernel) rfl), (zin 68 (by decide +kernel) rfl), ⟨by decide, by decide, by decide +kernel⟩, by decide, rfl⟩
theorem my_9_ofNow : zYs M9_ofNow 2 := ⟨(zin 979 (by decide +kernel) rfl), (zin 68 (by decide +kernel) rfl), ⟨by decide, by decide, by decide +kernel⟩, by decide, rfl⟩
theorem my_9_of : zYs M9_of 2 := ⟨(zin 974 (by decide +kernel) rfl), (zin 68 (by decide +kernel) rfl), ⟨by decide, by decide, by decide +kernel⟩, by decide, rfl⟩
theorem my_9_ages : zYs M9_ages 0 := ⟨(zin 1003 (by decide +kernel) rfl), (zin 68 (by decide +kernel) rfl), ⟨by decide, by decide, by decide +kernel⟩, by decide, rfl⟩
theorem my_9_isOpposed : zYs M9_isOpposed 2 := ⟨(zin 1011 (by decide +kernel) rfl), (zin 68 (by decide +kernel) rfl), ⟨by decide, by decide, by decide +kernel⟩, by decide, rfl⟩
theorem my_9_isOutbid : zYs M9_isOutbid 2 := ⟨(zin 1015 (by decide +kernel) rfl), (zin 68 (by decide +kernel) rfl), ⟨by decide, by decide, by decide +kernel⟩, by decide, rfl⟩
theorem my_9_probes : zYs M9_probes 2 := ⟨(zin 1007 (by decide +kernel) rfl), (zin 68 (by decide +kernel) rfl), ⟨by decide, by decide, by decide +kernel⟩, by decide, rfl⟩
theorem my_9_ticksOne : zYs M9_ticksOne 0 := ⟨(zin 999 (by decide +kernel) rfl), (zin 68 (by decide +kernel) rfl), ⟨by decide, by decide, by decide +kernel⟩, by decide, rfl⟩
theorem my_9_tickNow : zYs M9_tickNow 1 := ⟨(zin 995 (by decide +kernel) rfl), (zin 68 (by decide +kernel) rfl), ⟨by decide, by decide, by decide +kernel⟩, by decide, rfl⟩
theorem my_9_ticks : zYs M9_ticks 1 := ⟨(zin 991 (by decide +kernel) rfl), (zin 68 (by decide +kernel) rfl), ⟨by decide, by decide, by decide +kernel⟩, by decide, rfl⟩
theorem my_9_rateBits : zYs M9_rateBits 0 := ⟨(zin 1025 (by decide +kernel) rfl), (zin 68 (by decide +kernel) rfl), ⟨by decide, by decide, by decide +kernel⟩, by decide, rfl⟩
theorem my_9_rate : zYs M9_rate 0 := ⟨(zin 1021 (by decide +kernel) rfl), (zin 68 (by decide +kernel) rfl), ⟨by decide, by decide, by decide +kernel⟩, by decide, rfl⟩
theorem my_9_canAsk : zYs M9_canAsk 3 := ⟨(zin 1043 (by decide +kernel) rfl), (zin 68 (by decide +kernel) rfl), ⟨by decide, by decide, by decide +kernel⟩, by decide, rfl⟩
theorem my_9_askNow : zYs M9_askNow 3 := ⟨(zin 1047 (by decide +kernel) rfl), (zin 68 (by decide +kernel) rfl), ⟨by decide, by decide, by decide +kernel⟩, by decide, rfl⟩
theorem my_9_asks : zYs M9_asks 3 := ⟨(zin 1039 (by decide +kernel) rfl), (zin 68 (by decide +kernel) rfl), ⟨by decide, by decide, by decide +kernel⟩, by decide, rfl⟩
theorem my_9_entryNow : zYs M9_entryNow 3 := ⟨(zin 1056 (by decide +kernel) rfl), (zin 68 (by decide +kernel) rfl), ⟨by decide, by decide, by decide +kernel⟩, by decide, rfl⟩
theorem my_9_entry : zYs M9_entry 3 := ⟨(zin 1051 (by decide +kernel) rfl), (zin 68 (by decide +kernel) rfl), ⟨by decide, by decide, by decide +kernel⟩, by decide, rfl⟩
theorem my_9_findsNow : zYs M9_findsNow 4 := ⟨(zin 1064 (by decide +kernel) rfl), (zin 68 (by decide +kernel) rfl), ⟨by decide, by decide, by decide +kernel⟩, by decide, rfl⟩
theorem my_9_finds : zYs M9_finds 4 := ⟨(zin 1060 (by decide +kernel) rfl), (zin 68 (by decide +kernel) rfl), ⟨by decide, by decide, by decide +kernel⟩, by decide, rfl⟩
theorem my_9_ownerNow : zYs M9_ownerNow 3 := ⟨(zin 1072 (by decide +kernel) rfl), (zin 68 (by decide +kernel) rfl), ⟨by decide, by decide, by decide +kernel⟩, by decide, rfl⟩
theorem my_9_owner : zYs M9_owner 3 := ⟨(zin 1068 (by decide +kernel) rfl), (zin 68 (by decide +kernel) rfl), ⟨by decide, by decide, by decide +kernel⟩, by decide, rfl⟩
theorem my_9_isOwned : zYs M9_isOwned 1 := ⟨(zin 1084 (by decide +kernel) rfl), (zin 68 (by decide +kernel) rfl), ⟨by decide, by decide, by decide +kernel⟩, by decide, rfl⟩
theorem my_9_allNow : zYs M9_allNow 1 := ⟨(zin 1080 (by decide +kernel) rfl), (zin 68 (by decide +kernel) rfl), ⟨by decide, by decide, by decide +kernel⟩, by decide, rfl⟩
theorem my_9_all : zYs M9_all 1 := ⟨(zin 1076 (by decide +kernel) rfl), (zin 68 (by decide +kernel) rfl), ⟨by decide, by decide, by decide +kernel⟩, by decide, rfl⟩
theorem my_9_canSleep : zYs M9_canSleep 2 := ⟨(zin 1092 (by decide +kernel) rfl), (zin 68 (by decide +kernel) rfl), ⟨by decide, by decide, by decide +kernel⟩, by decide, rfl⟩
theorem my_9_sleepNow : zYs M9_sleepNow 2 := ⟨(zin 1096 (by decide +kernel) rfl), (zin 68 (by decide +kernel) rfl), ⟨by decide, by decide, by decide +kernel⟩, by decide, rfl⟩
theorem my_9_sleeps : zYs M9_sleeps 2 := ⟨(zin 1088 (by decide +kernel) rfl), (zin 68 (by decide +kernel) rfl), ⟨by decide, by decide, by decide +kernel⟩, by decide, rfl⟩
theorem my_9_canWake : zYs M9_canWake 1 := ⟨(zin 1104 (by decide +kernel) rfl), (zin 68 (by decide +kernel) rfl), ⟨by decide, by decide, by decide +kernel⟩, by decide, rfl⟩
theorem my_9_wakeNow : zYs M9_wakeNow 1 := ⟨(zin 1108 (by decide +kernel) rfl), (zin 68 (by decide +kernel) rfl), ⟨by decide, by decide, by decide +kernel⟩, by decide, rfl⟩
theorem my_9_wakes : zYs M9_wakes 1 := ⟨(zin 1100 (by decide +kernel) rfl), (zin 68 (by decide +kernel) rfl), ⟨by decide, by decide, by decide +kernel⟩, by decide, rfl⟩
theorem my_9_type : zYs M9_type 1 := ⟨(zin 1112 (by decide +kernel) rfl), (zin 68 (by decide +kernel) rfl), ⟨by decide, by decide, by decide +kernel⟩, by decide, rfl⟩
theorem my_9_clear : zYs M9_clear 0 := ⟨(zin 1117 (by decide +kernel) rfl), (zin 68 (by decide +kernel) rfl), ⟨by decide, by decide, by decide +kernel⟩, by decide, rfl⟩
theorem my_9_here : zYs M9_here 0 := ⟨(zin 1129 (by decide +kernel) rfl), (zin 68 (by decide +kernel) rfl), ⟨by decide, by decide, by decide +kernel⟩, by decide, rfl⟩
theorem my_9_isFigure : zYs M9_isFigure 1 := ⟨(zin 1140 (by decide +kernel) rfl), (zin 68 (by decide +kernel) rfl), ⟨by decide, by decide, by decide +kernel⟩, by decide, rfl⟩
theorem my_9_takes : zYs M9_takes 1 := ⟨(zin 1136 (by decide +kernel) rfl), (zin 68 (by decide +kernel) rfl), ⟨by decide, by decide, by decide +kernel⟩, by decide, rfl⟩
theorem my_9_numbersOf : zYs M9_numbersOf 1 := ⟨(zin 1132 (by decide +kernel) rfl), (zin 68 (by decide +kernel) rfl), ⟨by decide, by decide, by decide +kernel⟩, by decide, rfl⟩
theorem my_9_can : zYs M9_can 1 := ⟨(zin 1146 (by decide +kernel) rfl), (zin 68 (by decide +kernel) rfl), ⟨by decide, by decide, by decide +kernel⟩, by decide, rfl⟩
theorem my_9_does : zYs M9_does 1 := ⟨(zin 1150 (by decide +kernel) rfl), (zin 68 (by decide +kernel) rfl), ⟨by decide, by decide, by decide +kernel⟩, by decide, rfl⟩
theorem my_9_readsOrder : zYs M9_readsOrder 1 := ⟨(zin 1125 (by decide +kernel) rfl), (zin 68 (by decide +kernel) rfl), ⟨by decide, by decide, by decide +kernel⟩, by decide, rfl⟩
theorem my_9_reads : zYs M9_reads 0 := ⟨(zin 1121 (by decide +kernel) rfl), (zin 68 (by decide +kernel) rfl), ⟨by decide, by decide, by decide +kernel⟩, by decide, rfl⟩
theorem my_9_setsAside : zYs M9_setsAside 0 := ⟨(zin 1154 (by decide +kernel) rfl), (zin 68 (by decide +kernel) rfl), ⟨by decide, by decide, by decide +kernel⟩, by decide, rfl⟩
theorem my_9_takesAside : zYs M9_takesAside 0 := ⟨(zin 1158 (by decide +kernel) rfl), (zin 68 (by decide +kernel) rfl), ⟨by decide, by decide, by decide +kernel⟩, by decide, rfl⟩
theorem my_9_keepsAside : zYs M9_keepsAside 0 := ⟨(zin 1162 (by decide +kernel) rfl), (zin 68 (by decide +kernel) rfl), ⟨by decide, by decide, by decide +kernel⟩, by decide, rfl⟩
theorem my_9_why : zYs M9_why 1 := ⟨(zin 1166 (by decide +kernel) rfl), (zin 68 (by decide +kernel) rfl), ⟨by decide, by decide, by decide +kernel⟩, by decide, rfl⟩
theorem my_9_back : zYs M9_back 0 := ⟨(zin 1170 (by decide +kernel) rfl), (zin 68 (by decide +kernel) rfl), ⟨by decide, by decide, by decide +kernel⟩, by decide, rfl⟩
theorem my_9_toldOf : zYs M9_toldOf 1 := ⟨(zin 1179 (by decide +kernel) rfl), (zin 68 (by decide +kernel) rfl), ⟨by decide, by decide, by decide +kernel⟩, by decide, rfl⟩
theorem my_9_told : zYs M9_told 1 := ⟨(zin 1174 (by decide +kernel) rfl), (zin 68 (by decide +kernel) rfl), ⟨by decide, by decide, by decide +kernel⟩, by decide, rfl⟩
theorem my_9_digest : zYs M9_digest 0 := ⟨(zin 1183 (by decide +kernel) rfl), (zin 68 (by decide +kernel) rfl), ⟨by decide, by decide, by decide +kernel⟩, by decide, rfl⟩
theorem my_12_isNaN : zYs M12_isNaN 1 := ⟨(zin 1031 (by decide +kernel) rfl), (zin 70 (by decide +kernel) rfl), ⟨by decide, by decide, by decide +kernel⟩, by decide, rfl⟩
theorem my_12_floatToIntBits : zYs M12_floatToIntBits 1 := ⟨(zin 1028 (by decide +kernel) rfl), (zin 70 (by decide +kernel) rfl), ⟨by decide, by decide, by decide +kernel⟩, by decide, rfl⟩
theorem my_11_max : zYs M11_max 2 := ⟨(zin 645 (by decide +kernel) rfl), (zin 69 (by decide +kernel) rfl), ⟨by decide, by decide, by decide +kernel⟩, by decide, rfl⟩
theorem my_11_min : zYs M11_min 2 := ⟨(zin 461 (by decide +kernel) rfl), (zin 69 (by decide +kernel) rfl), ⟨by decide, by decide, by decide +kernel⟩, by decide, rfl⟩
theorem fd_6_9 : zFd 6 9 6 0 .int false := ⟨by decide, by decide, (zin 99 (by decide +kernel) rfl), by decide +kernel, rfl, rfl⟩
theorem fd_4_46 : zFd 4 46 6 0 .int false := ⟨by decide, by decide, (zin 100 (by decide +kernel) rfl), by decide +kernel, rfl, rfl⟩
theorem fd_0_42 : zFd 0 42 6 0 .int false := ⟨by decide, by decide, (zin 101 (by decide +kernel) rfl), by decide +kernel, rfl, rfl⟩
theorem fd_5_121 : zFd 5 121 6 0 .int false := ⟨by decide, by decide, (zin 102 (by decide +kernel) rfl), by decide +kernel, rfl, rfl⟩
theorem fd_6_15 : zFd 6 15 6 1 .int false := ⟨by decide, by decide, (zin 103 (by decide +kernel) rfl), by decide +kernel, rfl, rfl⟩
theorem fd_4_49 : zFd 4 49 6 1 .int false := ⟨by decide, by decide, (zin 104 (by decide +kernel) rfl), by decide +kernel, rfl, rfl⟩
theorem fd_0_45 : zFd 0 45 6 1 .int false := ⟨by decide, by decide, (zin 105 (by decide +kernel) rfl), by decide +kernel, rfl, rfl⟩
theorem fd_5_124 : zFd 5 124 6 1 .int false := ⟨by decide, by decide, (zin 106 (by decide +kernel) rfl), by decide +kernel, rfl, rfl⟩
theorem fd_6_18 : zFd 6 18 6 2 .int false := ⟨by decide, by decide, (zin 107 (by decide +kernel) rfl), by decide +kernel, rfl, rfl⟩
theorem fd_4_52 : zFd 4 52 6 2 .int false := ⟨by decide, by decide, (zin 108 (by decide +kernel) rfl), by decide +kernel, rfl, rfl⟩
theorem fd_0_46 : zFd 0 46 6 2 .int false := ⟨by decide, by decide, (zin 109 (by decide +kernel) rfl), by decide +kernel, rfl, rfl⟩
theorem fd_5_127 : zFd 5 127 6 2 .int false := ⟨by decide, by decide, (zin 110 (by decide +kernel) rfl), by decide +kernel, rfl, rfl⟩
theorem fd_6_21 : zFd 6 21 6 3 .int false := ⟨by decide, by decide, (zin 111 (by decide +kernel) rfl), by decide +kernel, rfl, rfl⟩
theorem fd_4_55 : zFd 4 55 6 3 .int false := ⟨by decide, by decide, (zin 112 (by decide +kernel) rfl), by decide +kernel, rfl, rfl⟩
theorem fd_0_51 : zFd 0 51 6 3 .int false := ⟨by decide, by decide, (zin 113 (by decide +kernel) rfl), by decide +kernel, rfl, rfl⟩
theorem fd_5_204 : zFd 5 204 6 3 .int false := ⟨by decide, by decide, (zin 114 (by decide +kernel) rfl), by decide +kernel, rfl, rfl⟩
theorem fd_6_24 : zFd 6 24 6 4 .int false := ⟨by decide, by decide, (zin 115 (by decide +kernel) rfl), by decide +kernel, rfl, rfl⟩
theorem fd_5_83 : zFd 5 83 6 4 .int false := ⟨by decide, by decide, (zin 116 (by decide +kernel) rfl), by decide +kernel, rfl, rfl⟩
theorem fd_6_27 : zFd 6 27 6 5 .int false := ⟨by decide, by decide, (zin 117 (by decide +kernel) rfl), by decide +kernel, rfl, rfl⟩
theorem fd_4_58 : zFd 4 58 6 5 .int false := ⟨by decide, by decide, (zin 118 (by decide +kernel) rfl), by decide +kernel, rfl, rfl⟩
theorem fd_5_162 : zFd 5 162 6 5 .int false := ⟨by decide, by decide, (zin 119 (by decide +kernel) rfl), by decide +kernel, rfl, rfl⟩
theorem fd_6_30 : zFd 6 30 6 6 .boolean false := ⟨by decide, by decide, (zin 120 (by decide +kernel) rfl), by decide +kernel, rfl, rfl⟩
theorem fd_0_55 : zFd 0 55 6 6 .boolean false := ⟨by decide, by decide, (zin 121 (by decide +kernel) rfl), by decide +kernel, rfl, rfl⟩
theorem fd_5_77 : zFd 5 77 6 6 .boolean false := ⟨by decide, by decide, (zin 122 (by decide +kernel) rfl), by decide +kernel, rfl, rfl⟩
theorem fd_4_73 : zFd 4 73 6 6 .boolean false := ⟨by decide, by decide, (zin 123 (by decide +kernel) rfl), by decide +kernel, rfl, rfl⟩
theorem fd_2_7 : zFd 2 7 2 0 .int false := ⟨by decide, by decide, (zin 152 (by decide +kernel) rfl), by decide +kernel, rfl, rfl⟩
theorem fd_0_26 : zFd 0 26 2 0 .int false := ⟨by decide, by decide, (zin 153 (by decide +kernel) rfl), by decide +kernel, rfl, rfl⟩
theorem fd_5_224 : zFd 5 224 2 0 .int false := ⟨by decide, by decide, (zin 154 (by decide +kernel) rfl), by decide +kernel, rfl, rfl⟩
theorem fd_2_13 : zFd 2 13 2 1 .int false := ⟨by decide, by decide, (zin 155 (by decide +kernel) rfl), by decide +kernel, rfl, rfl⟩
theorem fd_0_29 : zFd 0 29 2 1 .int false := ⟨by decide, by decide, (zin 156 (by decide +kernel) rfl), by decide +kernel, rfl, rfl⟩
theorem fd_5_227 : zFd 5 227 2 1 .int false := ⟨by decide, by decide, (zin 157 (by decide +kernel) rfl), by decide +kernel, rfl, rfl⟩
theorem fd_2_16 : zFd 2 16 2 2 .int false := ⟨by decide, by decide, (zin 158 (by decide +kernel) rfl), by decide +kernel, rfl, rfl⟩
theorem fd_0_32 : zFd 0 32 2 2 .int false := ⟨by decide, by decide, (zin 159 (by decide +kernel) rfl), by decide +kernel, rfl, rfl⟩
theorem fd_5_228 : zFd 5 228 2 2 .int false := ⟨by decide, by decide, (zin 160 (by decide +kernel) rfl), by decide +kernel, rfl, rfl⟩
theorem fd_2_19 : zFd 2 19 2 3 .int false := ⟨by decide, by decide, (zin 161 (by decide +kernel) rfl), by decide +kernel, rfl, rfl⟩
theorem fd_0_54 : zFd 0 54 2 3 .int false := ⟨by decide, by decide, (zin 162 (by decide +kernel) rfl), by decide +kernel, rfl, rfl⟩
theorem fd_5_229 : zFd 5 229 2 3 .int false := ⟨by decide, by decide, (zin 163 (by decide +kernel) rfl), by decide +kernel, rfl, rfl⟩
theorem fd_2_22 : zFd 2 22 2 4 .int false := ⟨by decide, by decide, (zin 164 (by decide +kernel) rfl), by decide +kernel, rfl, rfl⟩
theorem fd_0_35 : zFd 0 35 2 4 .int false := ⟨by decide, by decide, (zin 165 (by decide +kernel) rfl), by decide +kernel, rfl, rfl⟩
theorem fd_5_230 : zFd 5 230 2 4 .int false := ⟨by decide, by decide, (zin 166 (by decide +kernel) rfl), by decide +kernel, rfl, rfl⟩
theorem fd_0_11 : zFd 0 11 0 0 (.array (.object "LinkNames$Entry")) true := ⟨by decide, by decide, (zin 178 (by decide +kernel) rfl), by decide +kernel, rfl, rfl⟩
theorem fd_5_220 : zFd 5 220 0 0 (.array (.object "LinkNames$Entry")) true := ⟨by decide, by decide, (zin 179 (by decide +kernel) rfl), by decide +kernel, rfl, rfl⟩
theorem fd_0_18 : zFd 0 18 0 1 .int false := ⟨by decide, by decide, (zin 180 (by decide +kernel) rfl), by decide +kernel, rfl, rfl⟩
theorem fd_4_29 : zFd 4 29 0 1 .int false := ⟨by decide, by decide, (zin 181 (by decide +kernel) rfl), by decide +kernel, rfl, rfl⟩
theorem fd_5_214 : zFd 5 214 0 1 .int false := ⟨by decide, by decide, (zin 182 (by decide +kernel) rfl), by decide +kernel, rfl, rfl⟩
theorem fd_4_11 : zFd 4 11 4 0 (.array (.object "LinkNames$NameRecord")) true := ⟨by decide, by decide, (zin 188 (by decide +kernel) rfl), by decide +kernel, rfl, rfl⟩
theorem fd_5_146 : zFd 5 146 4 0 (.array (.object "LinkNames$NameRecord")) true := ⟨by decide, by decide, (zin 189 (by decide +kernel) rfl), by decide +kernel, rfl, rfl⟩
theorem fd_4_21 : zFd 4 21 4 1 (.object "LinkNames$Cache") true := ⟨by decide, by decide, (zin 190 (by decide +kernel) rfl), by decide +kernel, rfl, rfl⟩
theorem fd_5_111 : zFd 5 111 4 1 (.object "LinkNames$Cache") true := ⟨by decide, by decide, (zin 191 (by decide +kernel) rfl), by decide +kernel, rfl, rfl⟩
theorem fd_4_25 : zFd 4 25 4 2 .int false := ⟨by decide, by decide, (zin 192 (by decide +kernel) rfl), by decide +kernel, rfl, rfl⟩
theorem fd_5_59 : zFd 5 59 4 2 .int false := ⟨by decide, by decide, (zin 193 (by decide +kernel) rfl), by decide +kernel, rfl, rfl⟩
theorem fd_4_32 : zFd 4 32 4 3 .boolean false := ⟨by decide, by decide, (zin 194 (by decide +kernel) rfl), by decide +kernel, rfl, rfl⟩
theorem fd_5_94 : zFd 5 94 4 3 .boolean false := ⟨by decide, by decide, (zin 195 (by decide +kernel) rfl), by decide +kernel, rfl, rfl⟩
theorem fd_4_36 : zFd 4 36 4 4 .int false := ⟨by decide, by decide, (zin 196 (by decide +kernel) rfl), by decide +kernel, rfl, rfl⟩
theorem fd_5_136 : zFd 5 136 4 4 .int false := ⟨by decide, by decide, (zin 197 (by decide +kernel) rfl), by decide +kernel, rfl, rfl⟩
theorem fd_1_9 : zFd 1 9 1 0 (.array .long) true := ⟨by decide, by decide, (zin 215 (by decide +kernel) rfl), by decide +kernel, rfl, rfl⟩
theorem fd_5_11 : zFd 5 11 5 0 (.array (.object "LinkNames$Host")) true := ⟨by decide, by decide, (zin 220 (by decide +kernel) rfl), by decide +kernel, rfl, rfl⟩
theorem fd_5_21 : zFd 5 21 5 1 (.object "LinkNames$DataSet") true := ⟨by decide, by decide, (zin 221 (by decide +kernel) rfl), by decide +kernel, rfl, rfl⟩
theorem fd_5_25 : zFd 5 25 5 2 .int false := ⟨by decide, by decide, (zin 222 (by decide +kernel) rfl), by decide +kernel, rfl, rfl⟩
theorem fd_8_141 : zFd 8 141 5 2 .int false := ⟨by decide, by decide, (zin 223 (by decide +kernel) rfl), by decide +kernel, rfl, rfl⟩
theorem fd_5_33 : zFd 5 33 5 3 .int false := ⟨by decide, by decide, (zin 224 (by decide +kernel) rfl), by decide +kernel, rfl, rfl⟩
theorem fd_8_144 : zFd 8 144 5 3 .int false := ⟨by decide, by decide, (zin 225 (by decide +kernel) rfl), by decide +kernel, rfl, rfl⟩
theorem fd_5_36 : zFd 5 36 5 4 .int false := ⟨by decide, by decide, (zin 226 (by decide +kernel) rfl), by decide +kernel, rfl, rfl⟩
theorem fd_8_147 : zFd 8 147 5 4 .int false := ⟨by decide, by decide, (zin 227 (by decide +kernel) rfl), by decide +kernel, rfl, rfl⟩
theorem fd_5_39 : zFd 5 39 5 5 .int false := ⟨by decide, by decide, (zin 228 (by decide +kernel) rfl), by decide +kernel, rfl, rfl⟩
theorem fd_5_42 : zFd 5 42 5 6 .int false := ⟨by decide, by decide, (zin 229 (by decide +kernel) rfl), by decide +kernel, rfl, rfl⟩
theorem fd_8_150 : zFd 8 150 5 6 .int false := ⟨by decide, by decide, (zin 230 (by decide +kernel) rfl), by decide +kernel, rfl, rfl⟩
theorem fd_5_45 : zFd 5 45 5 7 .int false := ⟨by decide, by decide, (zin 231 (by decide +kernel) rfl), by decide +kernel, rfl, rfl⟩
theorem fd_8_153 : zFd 8 153 5 7 .int false := ⟨by decide, by decide, (zin 232 (by decide +kernel) rfl), by decide +kernel, rfl, rfl⟩
theorem fd_5_48 : zFd 5 48 5 8 .int false := ⟨by decide, by decide, (zin 233 (by decide +kernel) rfl), by decide +kernel, rfl, rfl⟩
theorem fd_8_156 : zFd 8 156 5 8 .int false := ⟨by decide, by decide, (zin 234 (by decide +kernel) rfl), by decide +kernel, rfl, rfl⟩
theorem fd_5_51 : zFd 5 51 5 9 .float false := ⟨by decide, by decide, (zin 235 (by decide +kernel) rfl), by decide +kernel, rfl, rfl⟩
theorem fd_8_70 : zFd 8 70 5 9 .float false := ⟨by decide, by decide, (zin 236 (by decide +kernel) rfl), by decide +kernel, rfl, rfl⟩
theorem fd_3_13 : zFd 3 13 3 0 (.array (.object "LinkNames$Link")) true := ⟨by decide, by decide, (zin 267 (by decide +kernel) rfl), by decide +kernel, rfl, rfl⟩
theorem fd_3_18 : zFd 3 18 3 1 .int false := ⟨by decide, by decide, (zin 268 (by decide +kernel) rfl), by decide +kernel, rfl, rfl⟩
theorem fd_3_22 : zFd 3 22 3 2 .int false := ⟨by decide, by decide, (zin 269 (by decide +kernel) rfl), by decide +kernel, rfl, rfl⟩
theorem fd_8_159 : zFd 8 159 3 2 .int false := ⟨by decide, by decide, (zin 270 (by decide +kernel) rfl), by decide +kernel, rfl, rfl⟩
theorem fd_7_9 : zFd 7 9 7 0 (.array .byte) true := ⟨by decide, by decide, (zin 284 (by decide +kernel) rfl), by decide +kernel, rfl, rfl⟩
theorem fd_7_26 : zFd 7 26 7 1 .int false := ⟨by decide, by decide, (zin 285 (by decide +kernel) rfl), by decide +kernel, rfl, rfl⟩
theorem fd_8_103 : zFd 8 103 7 1 .int false := ⟨by decide, by decide, (zin 286 (by decide +kernel) rfl), by decide +kernel, rfl, rfl⟩
theorem fd_7_15 : zFd 7 15 7 2 (.array .int) true := ⟨by decide, by decide, (zin 287 (by decide +kernel) rfl), by decide +kernel, rfl, rfl⟩
theorem fd_7_19 : zFd 7 19 7 3 (.array .int) true := ⟨by decide, by decide, (zin 288 (by decide +kernel) rfl), by decide +kernel, rfl, rfl⟩
theorem fd_7_30 : zFd 7 30 7 4 .int false := ⟨by decide, by decide, (zin 289 (by decide +kernel) rfl), by decide +kernel, rfl, rfl⟩
theorem fd_8_109 : zFd 8 109 7 4 .int false := ⟨by decide, by decide, (zin 290 (by decide +kernel) rfl), by decide +kernel, rfl, rfl⟩
theorem fd_7_33 : zFd 7 33 7 5 .boolean false := ⟨by decide, by decide, (zin 291 (by decide +kernel) rfl), by decide +kernel, rfl, rfl⟩
theorem fd_7_50 : zFd 7 50 7 6 .int false := ⟨by decide, by decide, (zin 292 (by decide +kernel) rfl), by decide +kernel, rfl, rfl⟩
theorem fd_7_41 : zFd 7 41 7 7 .int false := ⟨by decide, by decide, (zin 293 (by decide +kernel) rfl), by decide +kernel, rfl, rfl⟩
theorem fd_8_12 : zFd 8 12 8 0 (.object "LinkNames$Link") true := ⟨by decide, by decide, (zin 313 (by decide +kernel) rfl), by decide +kernel, rfl, rfl⟩
theorem fd_8_19 : zFd 8 19 8 1 (.object "LinkNames$History") true := ⟨by decide, by decide, (zin 314 (by decide +kernel) rfl), by decide +kernel, rfl, rfl⟩
theorem fd_8_26 : zFd 8 26 8 2 (.object "LinkNames$Text") true := ⟨by decide, by decide, (zin 315 (by decide +kernel) rfl), by decide +kernel, rfl, rfl⟩
theorem fd_8_128 : zFd 8 128 8 3 .int false := ⟨by decide, by decide, (zin 316 (by decide +kernel) rfl), by decide +kernel, rfl, rfl⟩
theorem fd_8_135 : zFd 8 135 8 4 .int false := ⟨by decide, by decide, (zin 317 (by decide +kernel) rfl), by decide +kernel, rfl, rfl⟩
theorem fd_8_138 : zFd 8 138 8 5 .int false := ⟨by decide, by decide, (zin 318 (by decide +kernel) rfl), by decide +kernel, rfl, rfl⟩
theorem fd_8_122 : zFd 8 122 8 6 .int false := ⟨by decide, by decide, (zin 319 (by decide +kernel) rfl), by decide +kernel, rfl, rfl⟩
theorem fd_8_30 : zFd 8 30 8 7 .int false := ⟨by decide, by decide, (zin 320 (by decide +kernel) rfl), by decide +kernel, rfl, rfl⟩
theorem fd_9_7 : zFd 9 7 9 0 (.array .int) true := ⟨by decide, by decide, (zin 790 (by decide +kernel) rfl), by decide +kernel, rfl, rfl⟩
theorem fd_9_43 : zFd 9 43 9 1 .float false := ⟨by decide, by decide, (zin 791 (by decide +kernel) rfl), by decide +kernel, rfl, rfl⟩
theorem fd_9_13 : zFd 9 13 9 2 (.array .int) true := ⟨by decide, by decide, (zin 792 (by decide +kernel) rfl), by decide +kernel, rfl, rfl⟩
theorem fd_9_16 : zFd 9 16 9 3 (.array .float) true := ⟨by decide, by decide, (zin 793 (by decide +kernel) rfl), by decide +kernel, rfl, rfl⟩
theorem fd_9_20 : zFd 9 20 9 4 (.array .int) true := ⟨by decide, by decide, (zin 794 (by decide +kernel) rfl), by decide +kernel, rfl, rfl⟩
theorem fd_9_276 : zFd 9 276 9 5 .float false := ⟨by decide, by decide, (zin 795 (by decide +kernel) rfl), by decide +kernel, rfl, rfl⟩
theorem fd_9_40 : zFd 9 40 9 6 .int false := ⟨by decide, by decide, (zin 796 (by decide +kernel) rfl), by decide +kernel, rfl, rfl⟩
theorem fd_9_23 : zFd 9 23 9 7 (.array .int) true := ⟨by decide, by decide, (zin 797 (by decide +kernel) rfl), by decide +kernel, rfl, rfl⟩
theorem fd_9_26 : zFd 9 26 9 8 (.array .boolean) true := ⟨by decide, by decide, (zin 798 (by decide +kernel) rfl), by decide +kernel, rfl, rfl⟩
theorem fd_9_30 : zFd 9 30 9 9 (.array .int) true := ⟨by decide, by decide, (zin 799 (by decide +kernel) rfl), by decide +kernel, rfl, rfl⟩
theorem fd_9_229 : zFd 9 229 9 10 .int false := ⟨by decide, by decide, (zin 800 (by decide +kernel) rfl), by decide +kernel, rfl, rfl⟩
theorem fd_9_232 : zFd 9 232 9 11 .int false := ⟨by decide, by decide, (zin 801 (by decide +kernel) rfl), by decide +kernel, rfl, rfl⟩
theorem fd_9_33 : zFd 9 33 9 12 (.array .int) true := ⟨by decide, by decide, (zin 802 (by decide +kernel) rfl), by decide +kernel, rfl, rfl⟩
theorem fd_9_254 : zFd 9 254 9 13 .int false := ⟨by decide, by decide, (zin 803 (by decide +kernel) rfl), by decide +kernel, rfl, rfl⟩
theorem fd_9_270 : zFd 9 270 9 14 .int false := ⟨by decide, by decide, (zin 804 (by decide +kernel) rfl), by decide +kernel, rfl, rfl⟩
theorem fd_9_36 : zFd 9 36 9 15 .int false := ⟨by decide, by decide, (zin 805 (by decide +kernel) rfl), by decide +kernel, rfl, rfl⟩
theorem cl_10_7 : Cond.classLink (zcn 10) 7 (zcl 8).1 ∈ zW := (zin 71 (by decide +kernel) rfl)
theorem nw_10_7 : zNew 10 7 8 := ⟨by decide, cl_10_7, (zin 72 (by decide +kernel) rfl), (zin 59 (by decide +kernel) rfl)⟩
theorem cv_10_9 : zIs 10 9 M8_init 0 := ⟨my_8_init, (zin 73 (by decide +kernel) rfl), (zin 74 (by decide +kernel) rfl), rfl, rfl⟩
theorem oi_8_3 : Cond.methodLink (zcn 8) 3 Lib.objectInit ∈ zW := (zin 76 (by decide +kernel) rfl)
theorem cl_8_9 : Cond.classLink (zcn 8) 9 (zcl 5).1 ∈ zW := (zin 79 (by decide +kernel) rfl)
theorem nw_8_9 : zNew 8 9 5 := ⟨by decide, cl_8_9, (zin 80 (by decide +kernel) rfl), (zin 60 (by decide +kernel) rfl)⟩
theorem cv_8_11 : zIs 8 11 M5_init 0 := ⟨my_5_init, (zin 81 (by decide +kernel) rfl), (zin 82 (by decide +kernel) rfl), rfl, rfl⟩
theorem oi_5_3 : Cond.methodLink (zcn 5) 3 Lib.objectInit ∈ zW := (zin 84 (by decide +kernel) rfl)
theorem cl_5_9 : Cond.classLink (zcn 5) 9 (zcl 4).1 ∈ zW := (zin 85 (by decide +kernel) rfl)
theorem nw_5_9 : zNew 5 9 4 := ⟨by decide, cl_5_9, (zin 87 (by decide +kernel) rfl), (zin 61 (by decide +kernel) rfl)⟩
theorem ao_4 : Cond.arrayOver (.object (zcl 4).1) ∈ lw_tbl := List.mem_of_getElem? (i := 86) (by decide +kernel)
theorem cv_5_17 : zIs 5 17 M4_init 0 := ⟨my_4_init, (zin 88 (by decide +kernel) rfl), (zin 89 (by decide +kernel) rfl), rfl, rfl⟩
theorem oi_4_3 : Cond.methodLink (zcn 4) 3 Lib.objectInit ∈ zW := (zin 91 (by decide +kernel) rfl)
theorem cl_4_9 : Cond.classLink (zcn 4) 9 (zcl 6).1 ∈ zW := (zin 92 (by decide +kernel) rfl)
theorem nw_4_9 : zNew 4 9 6 := ⟨by decide, cl_4_9, (zin 94 (by decide +kernel) rfl), (zin 62 (by decide +kernel) rfl)⟩
theorem ao_6 : Cond.arrayOver (.object (zcl 6).1) ∈ lw_tbl := List.mem_of_getElem? (i := 93) (by decide +kernel)
theorem cv_4_17 : zIn 4 17 M6_init 0 := ⟨my_6_init, ⟨"LinkNames", List.mem_of_getElem? (i := 95) (by decide +kernel)⟩, (zin 96 (by decide +kernel) rfl), rfl, rfl⟩
theorem oi_6_3 : Cond.methodLink (zcn 6) 3 Lib.objectInit ∈ zW := (zin 98 (by decide +kernel) rfl)
theorem cl_4_18 : Cond.classLink (zcn 4) 18 (zcl 0).1 ∈ zW := (zin 139 (by decide +kernel) rfl)
theorem nw_4_18 : zNew 4 18 0 := ⟨by decide, cl_4_18, (zin 140 (by decide +kernel) rfl), (zin 63 (by decide +kernel) rfl)⟩
theorem cv_4_20 : zIs 4 20 M0_init 0 := ⟨my_0_init, (zin 141 (by decide +kernel) rfl), (zin 142 (by decide +kernel) rfl), rfl, rfl⟩
theorem oi_0_3 : Cond.methodLink (zcn 0) 3 Lib.objectInit ∈ zW := (zin 144 (by decide +kernel) rfl)
theorem cl_0_9 : Cond.classLink (zcn 0) 9 (zcl 2).1 ∈ zW := (zin 145 (by decide +kernel) rfl)
theorem nw_0_9 : zNew 0 9 2 := ⟨by decide, cl_0_9, (zin 147 (by decide +kernel) rfl), (zin 64 (by decide +kernel) rfl)⟩
theorem ao_2 : Cond.arrayOver (.object (zcl 2).1) ∈ lw_tbl := List.mem_of_getElem? (i := 146) (by decide +kernel)
theorem cv_0_17 : zIn 0 17 M2_init 0 := ⟨my_2_init, ⟨"LinkNames", List.mem_of_getElem? (i := 148) (by decide +kernel)⟩, (zin 149 (by decide +kernel) rfl), rfl, rfl⟩
theorem oi_2_1 : Cond.methodLink (zcn 2) 1 Lib.objectInit ∈ zW := (zin 151 (by decide +kernel) rfl)
theorem cl_5_18 : Cond.classLink (zcn 5) 18 (zcl 1).1 ∈ zW := (zin 209 (by decide +kernel) rfl)
theorem nw_5_18 : zNew 5 18 1 := ⟨by decide, cl_5_18, (zin 210 (by decide +kernel) rfl), (zin 65 (by decide +kernel) rfl)⟩
theorem cv_5_20 : zIs 5 20 M1_init 0 := ⟨my_1_init, (zin 211 (by decide +kernel) rfl), (zin 212 (by decide +kernel) rfl), rfl, rfl⟩
theorem oi_1_3 : Cond.methodLink (zcn 1) 3 Lib.objectInit ∈ zW := (zin 214 (by decide +kernel) rfl)
theorem ac_long : Cond.arrayClass .long ∈ zW := (zin 219 (by decide +kernel) rfl)
theorem cl_8_16 : Cond.classLink (zcn 8) 16 (zcl 3).1 ∈ zW := (zin 258 (by decide +kernel) rfl)
theorem nw_8_16 : zNew 8 16 3 := ⟨by decide, cl_8_16, (zin 259 (by decide +kernel) rfl), (zin 66 (by decide +kernel) rfl)⟩
theorem cv_8_18 : zIs 8 18 M3_init 0 := ⟨my_3_init, (zin 260 (by decide +kernel) rfl), (zin 261 (by decide +kernel) rfl), rfl, rfl⟩
theorem oi_3_3 : Cond.methodLink (zcn 3) 3 Lib.objectInit ∈ zW := (zin 263 (by decide +kernel) rfl)
theorem cl_3_11 : Cond.classLink (zcn 3) 11 (zcl 5).1 ∈ zW := (zin 264 (by decide +kernel) rfl)
theorem nw_3_11 : zNew 3 11 5 := ⟨by decide, cl_3_11, (zin 80 (by decide +kernel) rfl), (zin 60 (by decide +kernel) rfl)⟩
theorem ao_5 : Cond.arrayOver (.object (zcl 5).1) ∈ lw_tbl := List.mem_of_getElem? (i := 265) (by decide +kernel)
theorem cv_3_17 : zIs 3 17 M5_init 0 := ⟨my_5_init, (zin 266 (by decide +kernel) rfl), (zin 82 (by decide +kernel) rfl), rfl, rfl⟩
theorem cl_8_23 : Cond.classLink (zcn 8) 23 (zcl 7).1 ∈ zW := (zin 278 (by decide +kernel) rfl)
theorem nw_8_23 : zNew 8 23 7 := ⟨by decide, cl_8_23, (zin 279 (by decide +kernel) rfl), (zin 67 (by decide +kernel) rfl)⟩
theorem cv_8_25 : zIs 8 25 M7_init 0 := ⟨my_7_init, (zin 280 (by decide +kernel) rfl), (zin 281 (by decide +kernel) rfl), rfl, rfl⟩
theorem oi_7_3 : Cond.methodLink (zcn 7) 3 Lib.objectInit ∈ zW := (zin 283 (by decide +kernel) rfl)
theorem ac_byte : Cond.arrayClass .byte ∈ zW := (zin 311 (by decide +kernel) rfl)
theorem ac_int : Cond.arrayClass .int ∈ zW := (zin 312 (by decide +kernel) rfl)
theorem cv_10_13 : zVs 10 13 M8_host 0 := ⟨my_8_host, (zin 338 (by decide +kernel) rfl), (zin 339 (by decide +kernel) rfl), (zin 340 (by decide +kernel) rfl), by decide⟩
theorem cv_8_34 : zVs 8 34 M3_draft 1 := ⟨my_3_draft, (zin 342 (by decide +kernel) rfl), (zin 343 (by decide +kernel) rfl), (zin 344 (by decide +kernel) rfl), by decide⟩
theorem cv_3_25 : zVs 3 25 M3_behindNewest 0 := ⟨my_3_behindNewest, (zin 346 (by decide +kernel) rfl), (zin 347 (by decide +kernel) rfl), (zin 348 (by decide +kernel) rfl), by decide⟩
theorem cv_3_29 : zVs 3 29 M5_become 1 := ⟨my_5_become, (zin 350 (by decide +kernel) rfl), (zin 351 (by decide +kernel) rfl), (zin 352 (by decide +kernel) rfl), by decide⟩
theorem cv_5_29 : zVs 5 29 M4_become 1 := ⟨my_4_become, (zin 354 (by decide +kernel) rfl), (zin 355 (by decide +kernel) rfl), (zin 356 (by decide +kernel) rfl), by decide⟩
theorem cv_4_39 : zVs 4 39 M6_become 1 := ⟨my_6_become, (zin 358 (by decide +kernel) rfl), (zin 359 (by decide +kernel) rfl), (zin 360 (by decide +kernel) rfl), by decide⟩
theorem cv_4_43 : zVs 4 43 M0_become 1 := ⟨my_0_become, (zin 362 (by decide +kernel) rfl), (zin 363 (by decide +kernel) rfl), (zin 364 (by decide +kernel) rfl), by decide⟩
theorem cv_0_22 : zVs 0 22 M2_become 1 := ⟨my_2_become, (zin 366 (by decide +kernel) rfl), (zin 367 (by decide +kernel) rfl), (zin 368 (by decide +kernel) rfl), by decide⟩
theorem cv_8_38 : zVs 8 38 M5_addHost 0 := ⟨my_5_addHost, (zin 370 (by decide +kernel) rfl), (zin 371 (by decide +kernel) rfl), (zin 372 (by decide +kernel) rfl), by decide⟩
theorem cv_5_66 : zVs 5 66 M4_begin 0 := ⟨my_4_begin, (zin 374 (by decide +kernel) rfl), (zin 375 (by decide +kernel) rfl), (zin 376 (by decide +kernel) rfl), by decide⟩
theorem cv_8_42 : zVs 8 42 M8_stepped 1 := ⟨my_8_stepped, (zin 378 (by decide +kernel) rfl), (zin 380 (by decide +kernel) rfl), (zin 0 (by decide +kernel) rfl), by decide⟩
theorem cv_8_115 : zSs 8 115 M8_isError 1 := ⟨my_8_isError, (zin 382 (by decide +kernel) rfl), (zin 383 (by decide +kernel) rfl)⟩
theorem cv_8_125 : zVs 8 125 M3_keepDraft 0 := ⟨my_3_keepDraft, (zin 385 (by decide +kernel) rfl), (zin 386 (by decide +kernel) rfl), (zin 387 (by decide +kernel) rfl), by decide⟩
theorem cv_8_61 : zVs 8 61 M8_counted 1 := ⟨my_8_counted, (zin 389 (by decide +kernel) rfl), (zin 391 (by decide +kernel) rfl), (zin 1 (by decide +kernel) rfl), by decide⟩
theorem cv_10_18 : zVs 10 18 M8_claims 5 := ⟨my_8_claims, (zin 393 (by decide +kernel) rfl), (zin 394 (by decide +kernel) rfl), (zin 395 (by decide +kernel) rfl), by decide⟩
theorem cv_8_46 : zVs 8 46 M5_claim 5 := ⟨my_5_claim, (zin 397 (by decide +kernel) rfl), (zin 398 (by decide +kernel) rfl), (zin 399 (by decide +kernel) rfl), by decide⟩
theorem cv_5_69 : zVs 5 69 M5_errorOfAdding 5 := ⟨my_5_errorOfAdding, (zin 401 (by decide +kernel) rfl), (zin 402 (by decide +kernel) rfl), (zin 403 (by decide +kernel) rfl), by decide⟩
theorem cv_5_55 : zVs 5 55 M5_isHost 1 := ⟨my_5_isHost, (zin 405 (by decide +kernel) rfl), (zin 406 (by decide +kernel) rfl), (zin 407 (by decide +kernel) rfl), by decide⟩
theorem cv_5_90 : zSs 5 90 M5_isName 2 := ⟨my_5_isName, (zin 409 (by decide +kernel) rfl), (zin 410 (by decide +kernel) rfl)⟩
theorem cv_5_62 : zSn 5 62 M8_within 3 := ⟨my_8_within, ⟨"LinkNames", List.mem_of_getElem? (i := 412) (by decide +kernel)⟩, (zin 413 (by decide +kernel) rfl)⟩
theorem cv_5_97 : zVs 5 97 M4_hasNamed 2 := ⟨my_4_hasNamed, (zin 415 (by decide +kernel) rfl), (zin 416 (by decide +kernel) rfl), (zin 417 (by decide +kernel) rfl), by decide⟩
theorem cv_4_61 : zVs 4 61 M6_isNamed 2 := ⟨my_6_isNamed, (zin 419 (by decide +kernel) rfl), (zin 420 (by decide +kernel) rfl), (zin 421 (by decide +kernel) rfl), by decide⟩
theorem cv_5_73 : zVs 5 73 M4_add 4 := ⟨my_4_add, (zin 423 (by decide +kernel) rfl), (zin 424 (by decide +kernel) rfl), (zin 425 (by decide +kernel) rfl), by decide⟩
theorem cv_10_23 : zVs 10 23 M8_shares 5 := ⟨my_8_shares, (zin 427 (by decide +kernel) rfl), (zin 428 (by decide +kernel) rfl), (zin 429 (by decide +kernel) rfl), by decide⟩
theorem cv_8_50 : zVs 8 50 M5_share 5 := ⟨my_5_share, (zin 431 (by decide +kernel) rfl), (zin 432 (by decide +kernel) rfl), (zin 433 (by decide +kernel) rfl), by decide⟩
theorem cv_5_86 : zVs 5 86 M5_announce 2 := ⟨my_5_announce, (zin 435 (by decide +kernel) rfl), (zin 436 (by decide +kernel) rfl), (zin 437 (by decide +kernel) rfl), by decide⟩
theorem cv_5_130 : zVs 5 130 M4_has 3 := ⟨my_4_has, (zin 439 (by decide +kernel) rfl), (zin 440 (by decide +kernel) rfl), (zin 441 (by decide +kernel) rfl), by decide⟩
theorem cv_5_133 : zVs 5 133 M0_learn 2 := ⟨my_0_learn, (zin 443 (by decide +kernel) rfl), (zin 444 (by decide +kernel) rfl), (zin 445 (by decide +kernel) rfl), by decide⟩
theorem cv_0_47 : zVs 0 47 M0_indexOf 3 := ⟨my_0_indexOf, (zin 447 (by decide +kernel) rfl), (zin 448 (by decide +kernel) rfl), (zin 449 (by decide +kernel) rfl), by decide⟩
theorem cv_0_38 : zVs 0 38 M0_removeAt 1 := ⟨my_0_removeAt, (zin 451 (by decide +kernel) rfl), (zin 452 (by decide +kernel) rfl), (zin 453 (by decide +kernel) rfl), by decide⟩
theorem cv_0_59 : zVs 0 59 M0_endRivals 2 := ⟨my_0_endRivals, (zin 455 (by decide +kernel) rfl), (zin 456 (by decide +kernel) rfl), (zin 457 (by decide +kernel) rfl), by decide⟩
theorem mm_0_63 : Cond.methodLink (zcn 0) 63 Lib.Math.min.name ∈ zW := (zin 459 (by decide +kernel) rfl)
theorem mm2_0_63 : Cond.static Lib.Math.min.name ∈ zW := (zin 460 (by decide +kernel) rfl)
theorem mm3_0_63 : Cond.initialized "java/lang/Math" ∈ zW := (zin 69 (by decide +kernel) rfl)
theorem mm4_0_63 : Cond.code Lib.Math.min.name Lib.Math.min.code 2 (some .int) ∈ zW := (zin 461 (by decide +kernel) rfl)
theorem cv_10_27 : zVs 10 27 M8_leaves 2 := ⟨my_8_leaves, (zin 462 (by decide +kernel) rfl), (zin 463 (by decide +kernel) rfl), (zin 464 (by decide +kernel) rfl), by decide⟩
theorem cv_8_53 : zVs 8 53 M5_sayGoodbye 2 := ⟨my_5_sayGoodbye, (zin 466 (by decide +kernel) rfl), (zin 467 (by decide +kernel) rfl), (zin 468 (by decide +kernel) rfl), by decide⟩
theorem cv_5_100 : zVs 5 100 M5_isRecord 2 := ⟨my_5_isRecord, (zin 470 (by decide +kernel) rfl), (zin 471 (by decide +kernel) rfl), (zin 472 (by decide +kernel) rfl), by decide⟩
theorem cv_5_103 : zVs 5 103 M4_takeOut 1 := ⟨my_4_takeOut, (zin 474 (by decide +kernel) rfl), (zin 475 (by decide +kernel) rfl), (zin 476 (by decide +kernel) rfl), by decide⟩
theorem cv_5_107 : zVs 5 107 M6_isOwned 0 := ⟨my_6_isOwned, (zin 478 (by decide +kernel) rfl), (zin 479 (by decide +kernel) rfl), (zin 480 (by decide +kernel) rfl), by decide⟩
theorem cv_5_115 : zVs 5 115 M0_endOf 2 := ⟨my_0_endOf, (zin 482 (by decide +kernel) rfl), (zin 483 (by decide +kernel) rfl), (zin 484 (by decide +kernel) rfl), by decide⟩
theorem cv_10_32 : zVs 10 32 M8_record 3 := ⟨my_8_record, (zin 486 (by decide +kernel) rfl), (zin 487 (by decide +kernel) rfl), (zin 488 (by decide +kernel) rfl), by decide⟩
theorem cv_8_57 : zVs 8 57 M5_recordProperty 3 := ⟨my_5_recordProperty, (zin 490 (by decide +kernel) rfl), (zin 491 (by decide +kernel) rfl), (zin 492 (by decide +kernel) rfl), by decide⟩
theorem cv_5_207 : zSn 5 207 M8_oneIf 1 := ⟨my_8_oneIf, ⟨"LinkNames", List.mem_of_getElem? (i := 494) (by decide +kernel)⟩, (zin 495 (by decide +kernel) rfl)⟩
theorem cv_5_211 : zVs 5 211 M5_isDefended 2 := ⟨my_5_isDefended, (zin 497 (by decide +kernel) rfl), (zin 498 (by decide +kernel) rfl), (zin 499 (by decide +kernel) rfl), by decide⟩
theorem cv_5_139 : zVs 5 139 M5_speakerFor 1 := ⟨my_5_speakerFor, (zin 501 (by decide +kernel) rfl), (zin 502 (by decide +kernel) rfl), (zin 503 (by decide +kernel) rfl), by decide⟩
theorem cv_10_37 : zVs 10 37 M8_of 2 := ⟨my_8_of, (zin 505 (by decide +kernel) rfl), (zin 506 (by decide +kernel) rfl), (zin 507 (by decide +kernel) rfl), by decide⟩
theorem cv_8_64 : zVs 8 64 M5_hostProperty 2 := ⟨my_5_hostProperty, (zin 509 (by decide +kernel) rfl), (zin 510 (by decide +kernel) rfl), (zin 511 (by decide +kernel) rfl), by decide⟩
theorem cv_5_200 : zVs 5 200 M4_ownedCount 0 := ⟨my_4_ownedCount, (zin 513 (by decide +kernel) rfl), (zin 514 (by decide +kernel) rfl), (zin 515 (by decide +kernel) rfl), by decide⟩
theorem cv_4_65 : zVs 4 65 M6_isOwned 0 := ⟨my_6_isOwned, (zin 517 (by decide +kernel) rfl), (zin 479 (by decide +kernel) rfl), (zin 480 (by decide +kernel) rfl), by decide⟩
theorem cv_4_69 : zSn 4 69 M8_oneIf 1 := ⟨my_8_oneIf, ⟨"LinkNames", List.mem_of_getElem? (i := 518) (by decide +kernel)⟩, (zin 495 (by decide +kernel) rfl)⟩
theorem cv_5_217 : zVs 5 217 M5_hostsWithProxy 1 := ⟨my_5_hostsWithProxy, (zin 519 (by decide +kernel) rfl), (zin 520 (by decide +kernel) rfl), (zin 521 (by decide +kernel) rfl), by decide⟩
theorem cv_10_41 : zVs 10 41 M8_ticks 1 := ⟨my_8_ticks, (zin 523 (by decide +kernel) rfl), (zin 524 (by decide +kernel) rfl), (zin 525 (by decide +kernel) rfl), by decide⟩
theorem cv_8_67 : zVs 8 67 M5_passTicks 1 := ⟨my_5_passTicks, (zin 527 (by decide +kernel) rfl), (zin 528 (by decide +kernel) rfl), (zin 529 (by decide +kernel) rfl), by decide⟩
theorem cv_5_143 : zVs 5 143 M5_beginTick 0 := ⟨my_5_beginTick, (zin 531 (by decide +kernel) rfl), (zin 532 (by decide +kernel) rfl), (zin 533 (by decide +kernel) rfl), by decide⟩
theorem cv_5_156 : zVs 5 156 M0_removeEnded 1 := ⟨my_0_removeEnded, (zin 535 (by decide +kernel) rfl), (zin 536 (by decide +kernel) rfl), (zin 537 (by decide +kernel) rfl), by decide⟩
theorem cv_5_150 : zVs 5 150 M5_advance 2 := ⟨my_5_advance, (zin 539 (by decide +kernel) rfl), (zin 540 (by decide +kernel) rfl), (zin 541 (by decide +kernel) rfl), by decide⟩
theorem cv_5_165 : zVs 5 165 M5_isTaken 2 := ⟨my_5_isTaken, (zin 543 (by decide +kernel) rfl), (zin 544 (by decide +kernel) rfl), (zin 545 (by decide +kernel) rfl), by decide⟩
theorem cv_5_175 : zVs 5 175 M4_ownsRivalOf 1 := ⟨my_4_ownsRivalOf, (zin 547 (by decide +kernel) rfl), (zin 548 (by decide +kernel) rfl), (zin 549 (by decide +kernel) rfl), by decide⟩
theorem cv_5_169 : zVs 5 169 M6_restart 1 := ⟨my_6_restart, (zin 551 (by decide +kernel) rfl), (zin 552 (by decide +kernel) rfl), (zin 553 (by decide +kernel) rfl), by decide⟩
theorem cv_5_172 : zVs 5 172 M5_isOutbid 2 := ⟨my_5_isOutbid, (zin 555 (by decide +kernel) rfl), (zin 556 (by decide +kernel) rfl), (zin 557 (by decide +kernel) rfl), by decide⟩
theorem cv_5_179 : zVs 5 179 M4_outbids 1 := ⟨my_4_outbids, (zin 559 (by decide +kernel) rfl), (zin 560 (by decide +kernel) rfl), (zin 561 (by decide +kernel) rfl), by decide⟩
theorem cv_5_153 : zVs 5 153 M5_measureRate 0 := ⟨my_5_measureRate, (zin 563 (by decide +kernel) rfl), (zin 564 (by decide +kernel) rfl), (zin 565 (by decide +kernel) rfl), by decide⟩
theorem kc_5_160 : Cond.constantFloat (zcn 5) 160 (1061158912) ∈ zW := (zin 567 (by decide +kernel) rfl)
theorem kc_5_161 : Cond.constantFloat (zcn 5) 161 (1048576000) ∈ zW := (zin 568 (by decide +kernel) rfl)
theorem cv_10_46 : zVs 10 46 M8_rate 0 := ⟨my_8_rate, (zin 569 (by decide +kernel) rfl), (zin 570 (by decide +kernel) rfl), (zin 571 (by decide +kernel) rfl), by decide⟩
theorem cv_8_74 : zSs 8 74 M8_bitsOf 1 := ⟨my_8_bitsOf, (zin 573 (by decide +kernel) rfl), (zin 574 (by decide +kernel) rfl)⟩
theorem kc_8_196 : Cond.constantDouble (zcn 8) 196 (4611686018427387904) ∈ zW := (zin 576 (by decide +kernel) rfl)
theorem kc_8_198 : Cond.constantDouble (zcn 8) 198 (4602678819172646912) ∈ zW := (zin 577 (by decide +kernel) rfl)
theorem kc_8_200 : Cond.constantDouble (zcn 8) 200 (4710765210229538816) ∈ zW := (zin 578 (by decide +kernel) rfl)
theorem cv_10_50 : zVs 10 50 M8_asks 3 := ⟨my_8_asks, (zin 579 (by decide +kernel) rfl), (zin 580 (by decide +kernel) rfl), (zin 581 (by decide +kernel) rfl), by decide⟩
theorem cv_8_78 : zVs 8 78 M5_ask 3 := ⟨my_5_ask, (zin 583 (by decide +kernel) rfl), (zin 584 (by decide +kernel) rfl), (zin 585 (by decide +kernel) rfl), by decide⟩
theorem cv_5_182 : zVs 5 182 M1_empty 0 := ⟨my_1_empty, (zin 587 (by decide +kernel) rfl), (zin 588 (by decide +kernel) rfl), (zin 589 (by decide +kernel) rfl), by decide⟩
theorem cv_5_185 : zVs 5 185 M0_noteKnown 4 := ⟨my_0_noteKnown, (zin 591 (by decide +kernel) rfl), (zin 592 (by decide +kernel) rfl), (zin 593 (by decide +kernel) rfl), by decide⟩
theorem cv_0_69 : zVs 0 69 M2_isNamed 2 := ⟨my_2_isNamed, (zin 595 (by decide +kernel) rfl), (zin 596 (by decide +kernel) rfl), (zin 597 (by decide +kernel) rfl), by decide⟩
theorem cv_0_73 : zVs 0 73 M1_add 1 := ⟨my_1_add, (zin 599 (by decide +kernel) rfl), (zin 600 (by decide +kernel) rfl), (zin 601 (by decide +kernel) rfl), by decide⟩
theorem cv_1_15 : zSn 1 15 M8_within 3 := ⟨my_8_within, ⟨"LinkNames", List.mem_of_getElem? (i := 603) (by decide +kernel)⟩, (zin 413 (by decide +kernel) rfl)⟩
theorem cv_5_189 : zVs 5 189 M5_answerFor 3 := ⟨my_5_answerFor, (zin 604 (by decide +kernel) rfl), (zin 605 (by decide +kernel) rfl), (zin 606 (by decide +kernel) rfl), by decide⟩
theorem cv_5_193 : zVs 5 193 M6_isNamed 2 := ⟨my_6_isNamed, (zin 608 (by decide +kernel) rfl), (zin 420 (by decide +kernel) rfl), (zin 421 (by decide +kernel) rfl), by decide⟩
theorem cv_5_196 : zVs 5 196 M1_has 1 := ⟨my_1_has, (zin 609 (by decide +kernel) rfl), (zin 610 (by decide +kernel) rfl), (zin 611 (by decide +kernel) rfl), by decide⟩
theorem cv_5_198 : zVs 5 198 M1_add 1 := ⟨my_1_add, (zin 613 (by decide +kernel) rfl), (zin 600 (by decide +kernel) rfl), (zin 601 (by decide +kernel) rfl), by decide⟩
theorem cv_10_54 : zVs 10 54 M8_entry 3 := ⟨my_8_entry, (zin 614 (by decide +kernel) rfl), (zin 615 (by decide +kernel) rfl), (zin 616 (by decide +kernel) rfl), by decide⟩
theorem cv_8_81 : zVs 8 81 M5_entryProperty 3 := ⟨my_5_entryProperty, (zin 618 (by decide +kernel) rfl), (zin 619 (by decide +kernel) rfl), (zin 620 (by decide +kernel) rfl), by decide⟩
theorem cv_10_58 : zVs 10 58 M8_finds 4 := ⟨my_8_finds, (zin 622 (by decide +kernel) rfl), (zin 623 (by decide +kernel) rfl), (zin 624 (by decide +kernel) rfl), by decide⟩
theorem cv_8_84 : zVs 8 84 M5_lookUp 4 := ⟨my_5_lookUp, (zin 626 (by decide +kernel) rfl), (zin 627 (by decide +kernel) rfl), (zin 628 (by decide +kernel) rfl), by decide⟩
theorem cv_5_233 : zVs 5 233 M0_newestData 2 := ⟨my_0_newestData, (zin 630 (by decide +kernel) rfl), (zin 631 (by decide +kernel) rfl), (zin 632 (by decide +kernel) rfl), by decide⟩
theorem cv_5_237 : zVs 5 237 M0_countOf 2 := ⟨my_0_countOf, (zin 634 (by decide +kernel) rfl), (zin 635 (by decide +kernel) rfl), (zin 636 (by decide +kernel) rfl), by decide⟩
theorem cv_0_78 : zSn 0 78 M8_oneIf 1 := ⟨my_8_oneIf, ⟨"LinkNames", List.mem_of_getElem? (i := 638) (by decide +kernel)⟩, (zin 495 (by decide +kernel) rfl)⟩
theorem cv_5_240 : zVs 5 240 M0_longestLeft 3 := ⟨my_0_longestLeft, (zin 639 (by decide +kernel) rfl), (zin 640 (by decide +kernel) rfl), (zin 641 (by decide +kernel) rfl), by decide⟩
theorem mm_0_82 : Cond.methodLink (zcn 0) 82 Lib.Math.max.name ∈ zW := (zin 643 (by decide +kernel) rfl)
theorem mm2_0_82 : Cond.static Lib.Math.max.name ∈ zW := (zin 644 (by decide +kernel) rfl)
theorem mm3_0_82 : Cond.initialized "java/lang/Math" ∈ zW := (zin 69 (by decide +kernel) rfl)
theorem mm4_0_82 : Cond.code Lib.Math.max.name Lib.Math.max.code 2 (some .int) ∈ zW := (zin 645 (by decide +kernel) rfl)
theorem cv_10_63 : zVs 10 63 M8_owner 3 := ⟨my_8_owner, (zin 646 (by decide +kernel) rfl), (zin 647 (by decide +kernel) rfl), (zin 648 (by decide +kernel) rfl), by decide⟩
theorem cv_8_88 : zVs 8 88 M5_defender 3 := ⟨my_5_defender, (zin 650 (by decide +kernel) rfl), (zin 651 (by decide +kernel) rfl), (zin 652 (by decide +kernel) rfl), by decide⟩
theorem cv_5_243 : zVs 5 243 M4_firstSole 2 := ⟨my_4_firstSole, (zin 654 (by decide +kernel) rfl), (zin 655 (by decide +kernel) rfl), (zin 656 (by decide +kernel) rfl), by decide⟩
theorem cv_5_246 : zVs 5 246 M5_recordProperty 3 := ⟨my_5_recordProperty, (zin 658 (by decide +kernel) rfl), (zin 491 (by decide +kernel) rfl), (zin 492 (by decide +kernel) rfl), by decide⟩
theorem cv_10_67 : zVs 10 67 M8_all 1 := ⟨my_8_all, (zin 659 (by decide +kernel) rfl), (zin 660 (by decide +kernel) rfl), (zin 661 (by decide +kernel) rfl), by decide⟩
theorem cv_8_91 : zVs 8 91 M5_total 1 := ⟨my_5_total, (zin 663 (by decide +kernel) rfl), (zin 664 (by decide +kernel) rfl), (zin 665 (by decide +kernel) rfl), by decide⟩
theorem cv_5_249 : zVs 5 249 M5_staleEntries 1 := ⟨my_5_staleEntries, (zin 667 (by decide +kernel) rfl), (zin 668 (by decide +kernel) rfl), (zin 669 (by decide +kernel) rfl), by decide⟩
theorem cv_5_253 : zVs 5 253 M5_isOwnedByAny 1 := ⟨my_5_isOwnedByAny, (zin 671 (by decide +kernel) rfl), (zin 672 (by decide +kernel) rfl), (zin 673 (by decide +kernel) rfl), by decide⟩
theorem cv_5_257 : zVs 5 257 M4_owns 3 := ⟨my_4_owns, (zin 675 (by decide +kernel) rfl), (zin 676 (by decide +kernel) rfl), (zin 677 (by decide +kernel) rfl), by decide⟩
theorem cv_10_71 : zVs 10 71 M8_sleeps 2 := ⟨my_8_sleeps, (zin 679 (by decide +kernel) rfl), (zin 680 (by decide +kernel) rfl), (zin 681 (by decide +kernel) rfl), by decide⟩
theorem cv_8_94 : zVs 8 94 M5_fallAsleep 2 := ⟨my_5_fallAsleep, (zin 683 (by decide +kernel) rfl), (zin 684 (by decide +kernel) rfl), (zin 685 (by decide +kernel) rfl), by decide⟩
theorem cv_10_75 : zVs 10 75 M8_wakes 1 := ⟨my_8_wakes, (zin 687 (by decide +kernel) rfl), (zin 688 (by decide +kernel) rfl), (zin 689 (by decide +kernel) rfl), by decide⟩
theorem cv_8_97 : zVs 8 97 M5_wakeUp 1 := ⟨my_5_wakeUp, (zin 691 (by decide +kernel) rfl), (zin 692 (by decide +kernel) rfl), (zin 693 (by decide +kernel) rfl), by decide⟩
theorem cv_10_79 : zVs 10 79 M8_type 1 := ⟨my_8_type, (zin 695 (by decide +kernel) rfl), (zin 696 (by decide +kernel) rfl), (zin 697 (by decide +kernel) rfl), by decide⟩
theorem cv_8_100 : zVs 8 100 M7_append 1 := ⟨my_7_append, (zin 699 (by decide +kernel) rfl), (zin 700 (by decide +kernel) rfl), (zin 701 (by decide +kernel) rfl), by decide⟩
theorem cv_7_22 : zSn 7 22 M8_within 3 := ⟨my_8_within, ⟨"LinkNames", List.mem_of_getElem? (i := 703) (by decide +kernel)⟩, (zin 413 (by decide +kernel) rfl)⟩
theorem cv_10_83 : zVs 10 83 M8_clear 0 := ⟨my_8_clear, (zin 704 (by decide +kernel) rfl), (zin 705 (by decide +kernel) rfl), (zin 706 (by decide +kernel) rfl), by decide⟩
theorem cv_10_87 : zVs 10 87 M8_reads 0 := ⟨my_8_reads, (zin 708 (by decide +kernel) rfl), (zin 709 (by decide +kernel) rfl), (zin 710 (by decide +kernel) rfl), by decide⟩
theorem cv_8_106 : zVs 8 106 M7_findFault 0 := ⟨my_7_findFault, (zin 712 (by decide +kernel) rfl), (zin 713 (by decide +kernel) rfl), (zin 714 (by decide +kernel) rfl), by decide⟩
theorem cv_7_37 : zVs 7 37 M7_takes 1 := ⟨my_7_takes, (zin 716 (by decide +kernel) rfl), (zin 717 (by decide +kernel) rfl), (zin 718 (by decide +kernel) rfl), by decide⟩
theorem cv_7_44 : zVs 7 44 M7_beginsOrder 1 := ⟨my_7_beginsOrder, (zin 720 (by decide +kernel) rfl), (zin 721 (by decide +kernel) rfl), (zin 722 (by decide +kernel) rfl), by decide⟩
theorem cv_7_53 : zSs 7 53 M7_leastNumbers 1 := ⟨my_7_leastNumbers, (zin 724 (by decide +kernel) rfl), (zin 725 (by decide +kernel) rfl)⟩
theorem cv_7_47 : zVs 7 47 M7_takesDigit 1 := ⟨my_7_takesDigit, (zin 727 (by decide +kernel) rfl), (zin 728 (by decide +kernel) rfl), (zin 729 (by decide +kernel) rfl), by decide⟩
theorem cv_7_57 : zSs 7 57 M7_mostNumbers 1 := ⟨my_7_mostNumbers, (zin 731 (by decide +kernel) rfl), (zin 732 (by decide +kernel) rfl)⟩
theorem cv_8_112 : zVs 8 112 M8_perform 1 := ⟨my_8_perform, (zin 734 (by decide +kernel) rfl), (zin 736 (by decide +kernel) rfl), (zin 2 (by decide +kernel) rfl), by decide⟩
theorem cv_8_190 : zVs 8 190 M7_number 2 := ⟨my_7_number, (zin 738 (by decide +kernel) rfl), (zin 739 (by decide +kernel) rfl), (zin 740 (by decide +kernel) rfl), by decide⟩
theorem cv_8_193 : zVs 8 193 M7_letter 1 := ⟨my_7_letter, (zin 742 (by decide +kernel) rfl), (zin 743 (by decide +kernel) rfl), (zin 744 (by decide +kernel) rfl), by decide⟩
theorem cv_8_119 : zVs 8 119 M3_restoreDraft 1 := ⟨my_3_restoreDraft, (zin 746 (by decide +kernel) rfl), (zin 747 (by decide +kernel) rfl), (zin 748 (by decide +kernel) rfl), by decide⟩
theorem cv_10_91 : zVs 10 91 M8_why 1 := ⟨my_8_why, (zin 750 (by decide +kernel) rfl), (zin 751 (by decide +kernel) rfl), (zin 752 (by decide +kernel) rfl), by decide⟩
theorem cv_10_95 : zVs 10 95 M8_back 0 := ⟨my_8_back, (zin 754 (by decide +kernel) rfl), (zin 755 (by decide +kernel) rfl), (zin 756 (by decide +kernel) rfl), by decide⟩
theorem cv_8_131 : zVs 8 131 M3_goBack 1 := ⟨my_3_goBack, (zin 758 (by decide +kernel) rfl), (zin 759 (by decide +kernel) rfl), (zin 760 (by decide +kernel) rfl), by decide⟩
theorem cv_3_33 : zVs 3 33 M3_restoreDraft 1 := ⟨my_3_restoreDraft, (zin 762 (by decide +kernel) rfl), (zin 747 (by decide +kernel) rfl), (zin 748 (by decide +kernel) rfl), by decide⟩
theorem cv_10_99 : zVs 10 99 M8_told 1 := ⟨my_8_told, (zin 763 (by decide +kernel) rfl), (zin 764 (by decide +kernel) rfl), (zin 765 (by decide +kernel) rfl), by decide⟩
theorem cv_10_103 : zVs 10 103 M8_digest 0 := ⟨my_8_digest, (zin 767 (by decide +kernel) rfl), (zin 768 (by decide +kernel) rfl), (zin 769 (by decide +kernel) rfl), by decide⟩
theorem kc_8_162 : Cond.constantLong (zcn 8) 162 (2309) ∈ zW := (zin 771 (by decide +kernel) rfl)
theorem kc_8_164 : Cond.constantLong (zcn 8) 164 (31) ∈ zW := (zin 772 (by decide +kernel) rfl)
theorem cv_8_166 : zVs 8 166 M8_told 1 := ⟨my_8_told, (zin 773 (by decide +kernel) rfl), (zin 764 (by decide +kernel) rfl), (zin 765 (by decide +kernel) rfl), by decide⟩
theorem cv_8_169 : zVs 8 169 M8_why 1 := ⟨my_8_why, (zin 774 (by decide +kernel) rfl), (zin 751 (by decide +kernel) rfl), (zin 752 (by decide +kernel) rfl), by decide⟩
theorem cv_8_172 : zVs 8 172 M8_digestOfHost 2 := ⟨my_8_digestOfHost, (zin 775 (by decide +kernel) rfl), (zin 777 (by decide +kernel) rfl), (zin 3 (by decide +kernel) rfl), by decide⟩
theorem cv_8_181 : zVs 8 181 M8_of 2 := ⟨my_8_of, (zin 779 (by decide +kernel) rfl), (zin 506 (by decide +kernel) rfl), (zin 507 (by decide +kernel) rfl), by decide⟩
theorem cv_8_184 : zVs 8 184 M8_record 3 := ⟨my_8_record, (zin 780 (by decide +kernel) rfl), (zin 487 (by decide +kernel) rfl), (zin 488 (by decide +kernel) rfl), by decide⟩
theorem cv_8_187 : zVs 8 187 M8_entry 3 := ⟨my_8_entry, (zin 781 (by decide +kernel) rfl), (zin 615 (by decide +kernel) rfl), (zin 616 (by decide +kernel) rfl), by decide⟩
theorem cv_8_176 : zVs 8 176 M8_rate 0 := ⟨my_8_rate, (zin 782 (by decide +kernel) rfl), (zin 570 (by decide +kernel) rfl), (zin 571 (by decide +kernel) rfl), by decide⟩
theorem cv_8_178 : zVs 8 178 M8_all 1 := ⟨my_8_all, (zin 783 (by decide +kernel) rfl), (zin 660 (by decide +kernel) rfl), (zin 661 (by decide +kernel) rfl), by decide⟩
theorem cl_10_10 : Cond.classLink (zcn 10) 10 (zcl 9).1 ∈ zW := (zin 784 (by decide +kernel) rfl)
theorem nw_10_10 : zNew 10 10 9 := ⟨by decide, cl_10_10, (zin 785 (by decide +kernel) rfl), (zin 68 (by decide +kernel) rfl)⟩
theorem cv_10_12 : zIs 10 12 M9_init 0 := ⟨my_9_init, (zin 786 (by decide +kernel) rfl), (zin 787 (by decide +kernel) rfl), rfl, rfl⟩
theorem oi_9_1 : Cond.methodLink (zcn 9) 1 Lib.objectInit ∈ zW := (zin 789 (by decide +kernel) rfl)
theorem ac_float : Cond.arrayClass .float ∈ zW := (zin 839 (by decide +kernel) rfl)
theorem ac_boolean : Cond.arrayClass .boolean ∈ zW := (zin 840 (by decide +kernel) rfl)
theorem cv_10_17 : zVs 10 17 M9_host 0 := ⟨my_9_host, (zin 841 (by decide +kernel) rfl), (zin 842 (by decide +kernel) rfl), (zin 843 (by decide +kernel) rfl), by decide⟩
theorem cv_9_93 : zVs 9 93 M9_canHost 0 := ⟨my_9_canHost, (zin 845 (by decide +kernel) rfl), (zin 847 (by decide +kernel) rfl), (zin 4 (by decide +kernel) rfl), by decide⟩
theorem cv_9_97 : zVs 9 97 M9_refuses 1 := ⟨my_9_refuses, (zin 849 (by decide +kernel) rfl), (zin 851 (by decide +kernel) rfl), (zin 5 (by decide +kernel) rfl), by decide⟩
theorem cv_9_100 : zVs 9 100 M9_keep 0 := ⟨my_9_keep, (zin 853 (by decide +kernel) rfl), (zin 855 (by decide +kernel) rfl), (zin 6 (by decide +kernel) rfl), by decide⟩
theorem cv_9_103 : zVs 9 103 M9_hostNow 0 := ⟨my_9_hostNow, (zin 857 (by decide +kernel) rfl), (zin 859 (by decide +kernel) rfl), (zin 7 (by decide +kernel) rfl), by decide⟩
theorem cv_10_22 : zVs 10 22 M9_claims 5 := ⟨my_9_claims, (zin 861 (by decide +kernel) rfl), (zin 862 (by decide +kernel) rfl), (zin 863 (by decide +kernel) rfl), by decide⟩
theorem cv_9_125 : zVs 9 125 M9_canRecord 5 := ⟨my_9_canRecord, (zin 865 (by decide +kernel) rfl), (zin 867 (by decide +kernel) rfl), (zin 8 (by decide +kernel) rfl), by decide⟩
theorem cv_9_110 : zVs 9 110 M9_isHost 1 := ⟨my_9_isHost, (zin 869 (by decide +kernel) rfl), (zin 871 (by decide +kernel) rfl), (zin 9 (by decide +kernel) rfl), by decide⟩
theorem cv_9_47 : zSs 9 47 M9_in 3 := ⟨my_9_in, (zin 873 (by decide +kernel) rfl), (zin 874 (by decide +kernel) rfl)⟩
theorem cv_9_113 : zSs 9 113 M9_isName 2 := ⟨my_9_isName, (zin 876 (by decide +kernel) rfl), (zin 877 (by decide +kernel) rfl)⟩
theorem kc_9_106 : Cond.constantLong (zcn 9) 106 (15) ∈ zW := (zin 879 (by decide +kernel) rfl)
theorem kc_9_108 : Cond.constantLong (zcn 9) 108 (3) ∈ zW := (zin 880 (by decide +kernel) rfl)
theorem kc_9_116 : Cond.constantLong (zcn 9) 116 (255) ∈ zW := (zin 881 (by decide +kernel) rfl)
theorem kc_9_118 : Cond.constantLong (zcn 9) 118 (2) ∈ zW := (zin 882 (by decide +kernel) rfl)
theorem kc_9_120 : Cond.constantLong (zcn 9) 120 (60) ∈ zW := (zin 883 (by decide +kernel) rfl)
theorem cv_9_73 : zVs 9 73 M9_records 1 := ⟨my_9_records, (zin 884 (by decide +kernel) rfl), (zin 886 (by decide +kernel) rfl), (zin 10 (by decide +kernel) rfl), by decide⟩
theorem cv_9_55 : zSs 9 55 M9_at 2 := ⟨my_9_at, (zin 888 (by decide +kernel) rfl), (zin 889 (by decide +kernel) rfl)⟩
theorem cv_9_59 : zVs 9 59 M9_isAwake 1 := ⟨my_9_isAwake, (zin 891 (by decide +kernel) rfl), (zin 893 (by decide +kernel) rfl), (zin 11 (by decide +kernel) rfl), by decide⟩
theorem cv_9_129 : zVs 9 129 M9_recordNow 6 := ⟨my_9_recordNow, (zin 895 (by decide +kernel) rfl), (zin 897 (by decide +kernel) rfl), (zin 12 (by decide +kernel) rfl), by decide⟩
theorem cv_9_122 : zVs 9 122 M9_says 2 := ⟨my_9_says, (zin 899 (by decide +kernel) rfl), (zin 901 (by decide +kernel) rfl), (zin 13 (by decide +kernel) rfl), by decide⟩
theorem cv_9_90 : zVs 9 90 M9_hears 2 := ⟨my_9_hears, (zin 903 (by decide +kernel) rfl), (zin 905 (by decide +kernel) rfl), (zin 14 (by decide +kernel) rfl), by decide⟩
theorem cv_9_79 : zVs 9 79 M9_hasSame 2 := ⟨my_9_hasSame, (zin 907 (by decide +kernel) rfl), (zin 909 (by decide +kernel) rfl), (zin 15 (by decide +kernel) rfl), by decide⟩
theorem cv_9_76 : zVs 9 76 M9_areSame 2 := ⟨my_9_areSame, (zin 911 (by decide +kernel) rfl), (zin 913 (by decide +kernel) rfl), (zin 16 (by decide +kernel) rfl), by decide⟩
theorem cv_9_51 : zVs 9 51 M9_areOne 2 := ⟨my_9_areOne, (zin 915 (by decide +kernel) rfl), (zin 917 (by decide +kernel) rfl), (zin 17 (by decide +kernel) rfl), by decide⟩
theorem cv_9_70 : zVs 9 70 M9_entries 1 := ⟨my_9_entries, (zin 919 (by decide +kernel) rfl), (zin 921 (by decide +kernel) rfl), (zin 18 (by decide +kernel) rfl), by decide⟩
theorem cv_9_67 : zSs 9 67 M9_kept 2 := ⟨my_9_kept, (zin 923 (by decide +kernel) rfl), (zin 924 (by decide +kernel) rfl)⟩
theorem cv_9_82 : zVs 9 82 M9_dropsEntry 2 := ⟨my_9_dropsEntry, (zin 926 (by decide +kernel) rfl), (zin 928 (by decide +kernel) rfl), (zin 19 (by decide +kernel) rfl), by decide⟩
theorem cv_9_86 : zVs 9 86 M9_shortens 1 := ⟨my_9_shortens, (zin 930 (by decide +kernel) rfl), (zin 932 (by decide +kernel) rfl), (zin 20 (by decide +kernel) rfl), by decide⟩
theorem cv_10_26 : zVs 10 26 M9_shares 5 := ⟨my_9_shares, (zin 934 (by decide +kernel) rfl), (zin 935 (by decide +kernel) rfl), (zin 936 (by decide +kernel) rfl), by decide⟩
theorem cv_10_31 : zVs 10 31 M9_leaves 2 := ⟨my_9_leaves, (zin 938 (by decide +kernel) rfl), (zin 939 (by decide +kernel) rfl), (zin 940 (by decide +kernel) rfl), by decide⟩
theorem cv_9_136 : zVs 9 136 M9_canLeave 2 := ⟨my_9_canLeave, (zin 942 (by decide +kernel) rfl), (zin 944 (by decide +kernel) rfl), (zin 21 (by decide +kernel) rfl), by decide⟩
theorem cv_9_133 : zVs 9 133 M9_isRecord 2 := ⟨my_9_isRecord, (zin 946 (by decide +kernel) rfl), (zin 948 (by decide +kernel) rfl), (zin 22 (by decide +kernel) rfl), by decide⟩
theorem cv_9_139 : zVs 9 139 M9_leaveNow 2 := ⟨my_9_leaveNow, (zin 950 (by decide +kernel) rfl), (zin 952 (by decide +kernel) rfl), (zin 23 (by decide +kernel) rfl), by decide⟩
theorem cv_10_36 : zVs 10 36 M9_record 3 := ⟨my_9_record, (zin 954 (by decide +kernel) rfl), (zin 955 (by decide +kernel) rfl), (zin 956 (by decide +kernel) rfl), by decide⟩
theorem kc_9_145 : Cond.constantLong (zcn 9) 145 (7) ∈ zW := (zin 958 (by decide +kernel) rfl)
theorem cv_9_147 : zVs 9 147 M9_recordThen 3 := ⟨my_9_recordThen, (zin 959 (by decide +kernel) rfl), (zin 961 (by decide +kernel) rfl), (zin 24 (by decide +kernel) rfl), by decide⟩
theorem cv_9_142 : zVs 9 142 M9_isDefended 2 := ⟨my_9_isDefended, (zin 963 (by decide +kernel) rfl), (zin 965 (by decide +kernel) rfl), (zin 25 (by decide +kernel) rfl), by decide⟩
theorem cv_9_63 : zVs 9 63 M9_proxy 1 := ⟨my_9_proxy, (zin 967 (by decide +kernel) rfl), (zin 969 (by decide +kernel) rfl), (zin 26 (by decide +kernel) rfl), by decide⟩
theorem cv_10_40 : zVs 10 40 M9_of 2 := ⟨my_9_of, (zin 971 (by decide +kernel) rfl), (zin 972 (by decide +kernel) rfl), (zin 973 (by decide +kernel) rfl), by decide⟩
theorem kc_9_157 : Cond.constantLong (zcn 9) 157 (5) ∈ zW := (zin 975 (by decide +kernel) rfl)
theorem cv_9_159 : zVs 9 159 M9_ofNow 2 := ⟨my_9_ofNow, (zin 976 (by decide +kernel) rfl), (zin 978 (by decide +kernel) rfl), (zin 27 (by decide +kernel) rfl), by decide⟩
theorem cv_9_151 : zVs 9 151 M9_owned 1 := ⟨my_9_owned, (zin 980 (by decide +kernel) rfl), (zin 982 (by decide +kernel) rfl), (zin 28 (by decide +kernel) rfl), by decide⟩
theorem cv_9_154 : zVs 9 154 M9_stoodFor 1 := ⟨my_9_stoodFor, (zin 984 (by decide +kernel) rfl), (zin 986 (by decide +kernel) rfl), (zin 29 (by decide +kernel) rfl), by decide⟩
theorem cv_10_45 : zVs 10 45 M9_ticks 1 := ⟨my_9_ticks, (zin 988 (by decide +kernel) rfl), (zin 989 (by decide +kernel) rfl), (zin 990 (by decide +kernel) rfl), by decide⟩
theorem cv_9_179 : zVs 9 179 M9_tickNow 1 := ⟨my_9_tickNow, (zin 992 (by decide +kernel) rfl), (zin 994 (by decide +kernel) rfl), (zin 30 (by decide +kernel) rfl), by decide⟩
theorem cv_9_176 : zVs 9 176 M9_ticksOne 0 := ⟨my_9_ticksOne, (zin 996 (by decide +kernel) rfl), (zin 998 (by decide +kernel) rfl), (zin 31 (by decide +kernel) rfl), by decide⟩
theorem cv_9_168 : zVs 9 168 M9_ages 0 := ⟨my_9_ages, (zin 1000 (by decide +kernel) rfl), (zin 1002 (by decide +kernel) rfl), (zin 32 (by decide +kernel) rfl), by decide⟩
theorem cv_9_171 : zVs 9 171 M9_probes 2 := ⟨my_9_probes, (zin 1004 (by decide +kernel) rfl), (zin 1006 (by decide +kernel) rfl), (zin 33 (by decide +kernel) rfl), by decide⟩
theorem cv_9_162 : zVs 9 162 M9_isOpposed 2 := ⟨my_9_isOpposed, (zin 1008 (by decide +kernel) rfl), (zin 1010 (by decide +kernel) rfl), (zin 34 (by decide +kernel) rfl), by decide⟩
theorem cv_9_165 : zVs 9 165 M9_isOutbid 2 := ⟨my_9_isOutbid, (zin 1012 (by decide +kernel) rfl), (zin 1014 (by decide +kernel) rfl), (zin 35 (by decide +kernel) rfl), by decide⟩
theorem kc_9_174 : Cond.constantFloat (zcn 9) 174 (1061158912) ∈ zW := (zin 1016 (by decide +kernel) rfl)
theorem kc_9_175 : Cond.constantFloat (zcn 9) 175 (1048576000) ∈ zW := (zin 1017 (by decide +kernel) rfl)
theorem cv_10_49 : zVs 10 49 M9_rate 0 := ⟨my_9_rate, (zin 1018 (by decide +kernel) rfl), (zin 1019 (by decide +kernel) rfl), (zin 1020 (by decide +kernel) rfl), by decide⟩
theorem cv_9_188 : zVs 9 188 M9_rateBits 0 := ⟨my_9_rateBits, (zin 1022 (by decide +kernel) rfl), (zin 1024 (by decide +kernel) rfl), (zin 36 (by decide +kernel) rfl), by decide⟩
theorem cv_9_182 : zSs 9 182 M12_floatToIntBits 1 := ⟨my_12_floatToIntBits, (zin 1026 (by decide +kernel) rfl), (zin 1027 (by decide +kernel) rfl)⟩
theorem cv_12_59 : zSs 12 59 M12_isNaN 1 := ⟨my_12_isNaN, (zin 1029 (by decide +kernel) rfl), (zin 1030 (by decide +kernel) rfl)⟩
theorem nf_12_74 : Cond.methodLink (zcn 12) 74 ⟨"java/lang/Float", "floatToRawIntBits", "(F)I"⟩ ∈ zW := (zin 1032 (by decide +kernel) rfl)
theorem kc_12_77 : Cond.constant (zcn 12) 77 (2143289344) ∈ zW := (zin 1035 (by decide +kernel) rfl)
theorem cv_10_53 : zVs 10 53 M9_asks 3 := ⟨my_9_asks, (zin 1036 (by decide +kernel) rfl), (zin 1037 (by decide +kernel) rfl), (zin 1038 (by decide +kernel) rfl), by decide⟩
theorem cv_9_191 : zVs 9 191 M9_canAsk 3 := ⟨my_9_canAsk, (zin 1040 (by decide +kernel) rfl), (zin 1042 (by decide +kernel) rfl), (zin 37 (by decide +kernel) rfl), by decide⟩
theorem cv_9_194 : zVs 9 194 M9_askNow 3 := ⟨my_9_askNow, (zin 1044 (by decide +kernel) rfl), (zin 1046 (by decide +kernel) rfl), (zin 38 (by decide +kernel) rfl), by decide⟩
theorem cv_10_57 : zVs 10 57 M9_entry 3 := ⟨my_9_entry, (zin 1048 (by decide +kernel) rfl), (zin 1049 (by decide +kernel) rfl), (zin 1050 (by decide +kernel) rfl), by decide⟩
theorem kc_9_197 : Cond.constantLong (zcn 9) 197 (4) ∈ zW := (zin 1052 (by decide +kernel) rfl)
theorem cv_9_199 : zVs 9 199 M9_entryNow 3 := ⟨my_9_entryNow, (zin 1053 (by decide +kernel) rfl), (zin 1055 (by decide +kernel) rfl), (zin 39 (by decide +kernel) rfl), by decide⟩
theorem cv_10_62 : zVs 10 62 M9_finds 4 := ⟨my_9_finds, (zin 1057 (by decide +kernel) rfl), (zin 1058 (by decide +kernel) rfl), (zin 1059 (by decide +kernel) rfl), by decide⟩
theorem cv_9_202 : zVs 9 202 M9_findsNow 4 := ⟨my_9_findsNow, (zin 1061 (by decide +kernel) rfl), (zin 1063 (by decide +kernel) rfl), (zin 40 (by decide +kernel) rfl), by decide⟩
theorem cv_10_66 : zVs 10 66 M9_owner 3 := ⟨my_9_owner, (zin 1065 (by decide +kernel) rfl), (zin 1066 (by decide +kernel) rfl), (zin 1067 (by decide +kernel) rfl), by decide⟩
theorem cv_9_206 : zVs 9 206 M9_ownerNow 3 := ⟨my_9_ownerNow, (zin 1069 (by decide +kernel) rfl), (zin 1071 (by decide +kernel) rfl), (zin 41 (by decide +kernel) rfl), by decide⟩
theorem cv_10_70 : zVs 10 70 M9_all 1 := ⟨my_9_all, (zin 1073 (by decide +kernel) rfl), (zin 1074 (by decide +kernel) rfl), (zin 1075 (by decide +kernel) rfl), by decide⟩
theorem cv_9_212 : zVs 9 212 M9_allNow 1 := ⟨my_9_allNow, (zin 1077 (by decide +kernel) rfl), (zin 1079 (by decide +kernel) rfl), (zin 42 (by decide +kernel) rfl), by decide⟩
theorem cv_9_209 : zVs 9 209 M9_isOwned 1 := ⟨my_9_isOwned, (zin 1081 (by decide +kernel) rfl), (zin 1083 (by decide +kernel) rfl), (zin 43 (by decide +kernel) rfl), by decide⟩
theorem cv_10_74 : zVs 10 74 M9_sleeps 2 := ⟨my_9_sleeps, (zin 1085 (by decide +kernel) rfl), (zin 1086 (by decide +kernel) rfl), (zin 1087 (by decide +kernel) rfl), by decide⟩
theorem cv_9_215 : zVs 9 215 M9_canSleep 2 := ⟨my_9_canSleep, (zin 1089 (by decide +kernel) rfl), (zin 1091 (by decide +kernel) rfl), (zin 44 (by decide +kernel) rfl), by decide⟩
theorem cv_9_218 : zVs 9 218 M9_sleepNow 2 := ⟨my_9_sleepNow, (zin 1093 (by decide +kernel) rfl), (zin 1095 (by decide +kernel) rfl), (zin 45 (by decide +kernel) rfl), by decide⟩
theorem cv_10_78 : zVs 10 78 M9_wakes 1 := ⟨my_9_wakes, (zin 1097 (by decide +kernel) rfl), (zin 1098 (by decide +kernel) rfl), (zin 1099 (by decide +kernel) rfl), by decide⟩
theorem cv_9_221 : zVs 9 221 M9_canWake 1 := ⟨my_9_canWake, (zin 1101 (by decide +kernel) rfl), (zin 1103 (by decide +kernel) rfl), (zin 46 (by decide +kernel) rfl), by decide⟩
theorem cv_9_224 : zVs 9 224 M9_wakeNow 1 := ⟨my_9_wakeNow, (zin 1105 (by decide +kernel) rfl), (zin 1107 (by decide +kernel) rfl), (zin 47 (by decide +kernel) rfl), by decide⟩
theorem cv_10_82 : zVs 10 82 M9_type 1 := ⟨my_9_type, (zin 1109 (by decide +kernel) rfl), (zin 1110 (by decide +kernel) rfl), (zin 1111 (by decide +kernel) rfl), by decide⟩
theorem kc_9_227 : Cond.constantLong (zcn 9) 227 (127) ∈ zW := (zin 1113 (by decide +kernel) rfl)
theorem cv_10_86 : zVs 10 86 M9_clear 0 := ⟨my_9_clear, (zin 1114 (by decide +kernel) rfl), (zin 1115 (by decide +kernel) rfl), (zin 1116 (by decide +kernel) rfl), by decide⟩
theorem cv_10_90 : zVs 10 90 M9_reads 0 := ⟨my_9_reads, (zin 1118 (by decide +kernel) rfl), (zin 1119 (by decide +kernel) rfl), (zin 1120 (by decide +kernel) rfl), by decide⟩
theorem cv_9_260 : zVs 9 260 M9_readsOrder 1 := ⟨my_9_readsOrder, (zin 1122 (by decide +kernel) rfl), (zin 1124 (by decide +kernel) rfl), (zin 48 (by decide +kernel) rfl), by decide⟩
theorem cv_9_239 : zVs 9 239 M9_here 0 := ⟨my_9_here, (zin 1126 (by decide +kernel) rfl), (zin 1128 (by decide +kernel) rfl), (zin 49 (by decide +kernel) rfl), by decide⟩
theorem cv_9_245 : zSs 9 245 M9_numbersOf 1 := ⟨my_9_numbersOf, (zin 1130 (by decide +kernel) rfl), (zin 1131 (by decide +kernel) rfl)⟩
theorem cv_9_248 : zVs 9 248 M9_takes 1 := ⟨my_9_takes, (zin 1133 (by decide +kernel) rfl), (zin 1135 (by decide +kernel) rfl), (zin 50 (by decide +kernel) rfl), by decide⟩
theorem cv_9_242 : zVs 9 242 M9_isFigure 1 := ⟨my_9_isFigure, (zin 1137 (by decide +kernel) rfl), (zin 1139 (by decide +kernel) rfl), (zin 51 (by decide +kernel) rfl), by decide⟩
theorem kc_9_235 : Cond.constantLong (zcn 9) 235 (48) ∈ zW := (zin 1141 (by decide +kernel) rfl)
theorem kc_9_237 : Cond.constantLong (zcn 9) 237 (57) ∈ zW := (zin 1142 (by decide +kernel) rfl)
theorem cv_9_251 : zVs 9 251 M9_can 1 := ⟨my_9_can, (zin 1143 (by decide +kernel) rfl), (zin 1145 (by decide +kernel) rfl), (zin 52 (by decide +kernel) rfl), by decide⟩
theorem cv_9_257 : zVs 9 257 M9_does 1 := ⟨my_9_does, (zin 1147 (by decide +kernel) rfl), (zin 1149 (by decide +kernel) rfl), (zin 53 (by decide +kernel) rfl), by decide⟩
theorem cv_9_264 : zVs 9 264 M9_setsAside 0 := ⟨my_9_setsAside, (zin 1151 (by decide +kernel) rfl), (zin 1153 (by decide +kernel) rfl), (zin 54 (by decide +kernel) rfl), by decide⟩
theorem cv_9_267 : zVs 9 267 M9_takesAside 0 := ⟨my_9_takesAside, (zin 1155 (by decide +kernel) rfl), (zin 1157 (by decide +kernel) rfl), (zin 55 (by decide +kernel) rfl), by decide⟩
theorem cv_9_273 : zVs 9 273 M9_keepsAside 0 := ⟨my_9_keepsAside, (zin 1159 (by decide +kernel) rfl), (zin 1161 (by decide +kernel) rfl), (zin 56 (by decide +kernel) rfl), by decide⟩
theorem cv_10_94 : zVs 10 94 M9_why 1 := ⟨my_9_why, (zin 1163 (by decide +kernel) rfl), (zin 1164 (by decide +kernel) rfl), (zin 1165 (by decide +kernel) rfl), by decide⟩
theorem cv_10_98 : zVs 10 98 M9_back 0 := ⟨my_9_back, (zin 1167 (by decide +kernel) rfl), (zin 1168 (by decide +kernel) rfl), (zin 1169 (by decide +kernel) rfl), by decide⟩
theorem cv_10_102 : zVs 10 102 M9_told 1 := ⟨my_9_told, (zin 1171 (by decide +kernel) rfl), (zin 1172 (by decide +kernel) rfl), (zin 1173 (by decide +kernel) rfl), by decide⟩
theorem kc_9_279 : Cond.constantLong (zcn 9) 279 (10) ∈ zW := (zin 1175 (by decide +kernel) rfl)
theorem cv_9_281 : zVs 9 281 M9_toldOf 1 := ⟨my_9_toldOf, (zin 1176 (by decide +kernel) rfl), (zin 1178 (by decide +kernel) rfl), (zin 57 (by decide +kernel) rfl), by decide⟩
theorem cv_10_107 : zVs 10 107 M9_digest 0 := ⟨my_9_digest, (zin 1180 (by decide +kernel) rfl), (zin 1181 (by decide +kernel) rfl), (zin 1182 (by decide +kernel) rfl), by decide⟩
theorem kc_9_284 : Cond.constantLong (zcn 9) 284 (2309) ∈ zW := (zin 1184 (by decide +kernel) rfl)
theorem kc_9_286 : Cond.constantLong (zcn 9) 286 (31) ∈ zW := (zin 1185 (by decide +kernel) rfl)
theorem oi_1 : Cond.instanceMethod Lib.objectInit ∈ zW := (zin 77 (by decide +kernel) rfl)
theorem oi_2 : Cond.code Lib.objectInit ⟨#[0xb1]⟩ 1 none ∈ zW := (zin 78 (by decide +kernel) rfl)
theorem nf_1 : Cond.native ⟨"java/lang/Float", "floatToRawIntBits", "(F)I"⟩ ∈ zW := (zin 1034 (by decide +kernel) rfl)
theorem nf_2 : Cond.static ⟨"java/lang/Float", "floatToRawIntBits", "(F)I"⟩ ∈ zW := (zin 1033 (by decide +kernel) rfl)
theorem nf_3 : Cond.initialized "java/lang/Float" ∈ zW := (zin 70 (by decide +kernel) rfl)
end
section
/-! ===== rows in handy shapes: numbers that are nI n, answers that are bI b, calls by their number of arguments ===== -/
def bI (b : Bool) : Int32 := if b then 1 else 0
theorem bI_01 (b : Bool) : bI b = 0 ∨ bI b = 1 := by cases b <;> simp [bI]
theorem bI_eq0 {b : Bool} : bI b = 0 ↔ b = false := by cases b <;> simp [bI]
theorem bI_ne0 {b : Bool} : ¬ bI b = 0 ↔ b = true := by cases b <;> simp [bI]
section
variable {d : Nat} {M : zMeth} {Q : Value → zM → Prop} {pc : Nat} {ls st : List Value} {m : zM} {mc ms uc us : Nat}
theorem zr_iaddN {a b : Nat} (hd : decode M.2.2.1 pc = .ok (.iadd, 1)) (k : zwp d M mc ms Q (pc + 1) ls (.int (nI (a + b)) :: st) uc us m) : zwp d M mc ms Q pc ls (.int (nI b) :: .int (nI a) :: st) uc us m :=
  zr_iadd hd (by rw [nI_add]; exact k)
theorem zr_imulN {a b : Nat} (hd : decode M.2.2.1 pc = .ok (.imul, 1)) (k : zwp d M mc ms Q (pc + 1) ls (.int (nI (a * b)) :: st) uc us m) : zwp d M mc ms Q pc ls (.int (nI b) :: .int (nI a) :: st) uc us m :=
  zr_imul hd (by rw [pk_mul]; exact k)
theorem zr_isubN {a b : Nat} (hd : decode M.2.2.1 pc = .ok (.isub, 1)) (h : b ≤ a) (k : zwp d M mc ms Q (pc + 1) ls (.int (nI (a - b)) :: st) uc us m) : zwp d M mc ms Q pc ls (.int (nI b) :: .int (nI a) :: st) uc us m :=
  zr_isub hd (by rw [pk_sub h]; exact k)
theorem zr_iincN {n : Nat} {x : Nat} (hd : decode M.2.2.1 pc = .ok (.iinc n 1, 3)) (hl : zget ls n = .int (nI x)) (hn : n < M.2.2.2.1) (hc : zc1 ls n = true) (k : zwp d M mc ms Q (pc + 3) (zset ls n (.int (nI (x + 1)))) st uc us m) : zwp d M mc ms Q pc ls st uc us m :=
  zr_iinc hd hl (by rw [show Int32.ofInt 1 = (1 : Int32) from rfl]; exact nI_1 x) hn hc k
theorem zr_idecN {n : Nat} {x : Nat} (hd : decode M.2.2.1 pc = .ok (.iinc n (-1), 3)) (hl : zget ls n = .int (nI (x + 1))) (hn : n < M.2.2.2.1) (hc : zc1 ls n = true) (k : zwp d M mc ms Q (pc + 3) (zset ls n (.int (nI x))) st uc us m) : zwp d M mc ms Q pc ls st uc us m :=
  zr_iinc hd hl (by rw [show Int32.ofInt (-1) = (-1 : Int32) from rfl]; exact pk_m1 x) hn hc k
theorem zr_ialoadN {a n j : Nat} (hd : decode M.2.2.1 pc = .ok (.iaload, 1)) (ha : zAr m a 12 n) (hj : j < n) (hn : n < 65536) (kk : zwp d M mc ms Q (pc + 1) ls (.int (zI m a j) :: st) uc us m) : zwp d M mc ms Q pc ls (.int (nI j) :: .ref a :: st) uc us m :=
  zr_iaload hd ha (vp_in_nI hj (by omega)) (by rw [nI_clamp (by omega)]; exact kk)
theorem zr_iastoreN {a n j : Nat} {v : Int32} (hd : decode M.2.2.1 pc = .ok (.iastore, 1)) (ha : zAr m a 12 n) (hj : j < n) (hn : n < 65536) (kk : zwp d M mc ms Q (pc + 1) ls st uc us (zsI m a j v)) : zwp d M mc ms Q pc ls (.int v :: .int (nI j) :: .ref a :: st) uc us m :=
  zr_iastore hd ha (vp_in_nI hj (by omega)) (by rw [nI_clamp (by omega)]; exact kk)
theorem zr_faloadN {a n j : Nat} (hd : decode M.2.2.1 pc = .ok (.faload, 1)) (ha : zAr m a 11 n) (hj : j < n) (hn : n < 65536) (kk : zwp d M mc ms Q (pc + 1) ls (.float (zF m a j) :: st) uc us m) : zwp d M mc ms Q pc ls (.int (nI j) :: .ref a :: st) uc us m :=
  zr_faload hd ha (vp_in_nI hj (by omega)) (by rw [nI_clamp (by omega)]; exact kk)
theorem zr_fastoreN {a n j : Nat} {v : UInt32} (hd : decode M.2.2.1 pc = .ok (.fastore, 1)) (ha : zAr m a 11 n) (hj : j < n) (hn : n < 65536) (kk : zwp d M mc ms Q (pc + 1) ls st uc us (zsF m a j v)) : zwp d M mc ms Q pc ls (.float v :: .int (nI j) :: .ref a :: st) uc us m :=
  zr_fastore hd ha (vp_in_nI hj (by omega)) (by rw [nI_clamp (by omega)]; exact kk)
theorem zr_laloadN {a n j : Nat} (hd : decode M.2.2.1 pc = .ok (.laload, 1)) (ha : zAr m a 13 n) (hj : j < n) (hn : n < 65536) (kk : zwp d M mc ms Q (pc + 1) ls (.long (zL m a j) :: st) uc us m) : zwp d M mc ms Q pc ls (.int (nI j) :: .ref a :: st) uc us m :=
  zr_laload hd ha (vp_in_nI hj (by omega)) (by rw [nI_clamp (by omega)]; exact kk)
theorem zr_lastoreN {a n j : Nat} {v : Int64} (hd : decode M.2.2.1 pc = .ok (.lastore, 1)) (ha : zAr m a 13 n) (hj : j < n) (hn : n < 65536) (kk : zwp d M mc ms Q (pc + 1) ls st uc us (zsL m a j v)) : zwp d M mc ms Q pc ls (.long v :: .int (nI j) :: .ref a :: st) uc us m :=
  zr_lastore hd ha (vp_in_nI hj (by omega)) (by rw [nI_clamp (by omega)]; exact kk)
theorem zr_aaloadN {a kd n j r : Nat} (hd : decode M.2.2.1 pc = .ok (.aaload, 1)) (ha : zAr m a kd n) (h15 : 15 ≤ kd) (h19 : kd < 19) (hj : j < n) (hn : n < 65536) (hr : zR m a j = r) (h0 : r ≠ 0) (kk : zwp d M mc ms Q (pc + 1) ls (.ref r :: st) uc us m) : zwp d M mc ms Q pc ls (.int (nI j) :: .ref a :: st) uc us m :=
  zr_aaload hd ha h15 h19 (vp_in_nI hj (by omega)) (by rw [nI_clamp (by omega)]; exact hr) h0 kk
theorem zr_aastoreN {a kd n j v : Nat} (hd : decode M.2.2.1 pc = .ok (.aastore, 1)) (ha : zAr m a kd n) (h15 : 15 ≤ kd) (h19 : kd < 19) (hj : j < n) (hn : n < 65536) (hv : zOb m v (zcmp kd)) (kk : zwp d M mc ms Q (pc + 1) ls st uc us (zsR m a j v)) : zwp d M mc ms Q pc ls (.ref v :: .int (nI j) :: .ref a :: st) uc us m :=
  zr_aastore hd ha h15 h19 (vp_in_nI hj (by omega)) hv (by rw [nI_clamp (by omega)]; exact kk)
theorem zr_icmp_eqN {a b : Nat} {off : Int} {tgt : Nat} (hd : decode M.2.2.1 pc = .ok (.if_icmp .eq off, 3)) (ht : (pc : Int) + off = (tgt : Int)) (ha : a < 2 ^ 31) (hb : b < 2 ^ 31) (kt : a = b → zwp d M mc ms Q tgt ls st uc us m) (kf : ¬ a = b → zwp d M mc ms Q (pc + 3) ls st uc us m) : zwp d M mc ms Q pc ls (.int (nI b) :: .int (nI a) :: st) uc us m :=
  zr_icmp_eq hd ht (fun q => kt ((nI_eq ha hb).mp q)) (fun q => kf (fun z => q ((nI_eq ha hb).mpr z)))
theorem zr_icmp_neN {a b : Nat} {off : Int} {tgt : Nat} (hd : decode M.2.2.1 pc = .ok (.if_icmp .ne off, 3)) (ht : (pc : Int) + off = (tgt : Int)) (ha : a < 2 ^ 31) (hb : b < 2 ^ 31) (kt : ¬ a = b → zwp d M mc ms Q tgt ls st uc us m) (kf : a = b → zwp d M mc ms Q (pc + 3) ls st uc us m) : zwp d M mc ms Q pc ls (.int (nI b) :: .int (nI a) :: st) uc us m :=
  zr_icmp_ne hd ht (fun q => kt (fun z => q ((nI_eq ha hb).mpr z))) (fun q => kf ((nI_eq ha hb).mp q))
theorem zr_icmp_ltN {a b : Nat} {off : Int} {tgt : Nat} (hd : decode M.2.2.1 pc = .ok (.if_icmp .lt off, 3)) (ht : (pc : Int) + off = (tgt : Int)) (ha : a < 2 ^ 31) (hb : b < 2 ^ 31) (kt : a < b → zwp d M mc ms Q tgt ls st uc us m) (kf : b ≤ a → zwp d M mc ms Q (pc + 3) ls st uc us m) : zwp d M mc ms Q pc ls (.int (nI b) :: .int (nI a) :: st) uc us m :=
  zr_icmp_lt hd ht (fun q => kt ((nI_ltI ha hb).mp q)) (fun q => kf (Nat.not_lt.mp (fun z => q ((nI_ltI ha hb).mpr z))))
theorem zr_icmp_geN {a b : Nat} {off : Int} {tgt : Nat} (hd : decode M.2.2.1 pc = .ok (.if_icmp .ge off, 3)) (ht : (pc : Int) + off = (tgt : Int)) (ha : a < 2 ^ 31) (hb : b < 2 ^ 31) (kt : b ≤ a → zwp d M mc ms Q tgt ls st uc us m) (kf : a < b → zwp d M mc ms Q (pc + 3) ls st uc us m) : zwp d M mc ms Q pc ls (.int (nI b) :: .int (nI a) :: st) uc us m :=
  zr_icmp_ge hd ht (fun q => kt ((nI_leI hb ha).mp q)) (fun q => kf (Nat.not_le.mp (fun z => q ((nI_leI hb ha).mpr z))))
theorem zr_icmp_gtN {a b : Nat} {off : Int} {tgt : Nat} (hd : decode M.2.2.1 pc = .ok (.if_icmp .gt off, 3)) (ht : (pc : Int) + off = (tgt : Int)) (ha : a < 2 ^ 31) (hb : b < 2 ^ 31) (kt : b < a → zwp d M mc ms Q tgt ls st uc us m) (kf : a ≤ b → zwp d M mc ms Q (pc + 3) ls st uc us m) : zwp d M mc ms Q pc ls (.int (nI b) :: .int (nI a) :: st) uc us m :=
  zr_icmp_gt hd ht (fun q => kt ((nI_ltI hb ha).mp q)) (fun q => kf (Nat.not_lt.mp (fun z => q ((nI_ltI hb ha).mpr z))))
theorem zr_icmp_leN {a b : Nat} {off : Int} {tgt : Nat} (hd : decode M.2.2.1 pc = .ok (.if_icmp .le off, 3)) (ht : (pc : Int) + off = (tgt : Int)) (ha : a < 2 ^ 31) (hb : b < 2 ^ 31) (kt : a ≤ b → zwp d M mc ms Q tgt ls st uc us m) (kf : b < a → zwp d M mc ms Q (pc + 3) ls st uc us m) : zwp d M mc ms Q pc ls (.int (nI b) :: .int (nI a) :: st) uc us m :=
  zr_icmp_le hd ht (fun q => kt ((nI_leI ha hb).mp q)) (fun q => kf (Nat.not_le.mp (fun z => q ((nI_leI ha hb).mpr z))))
theorem zr_if_eqB {b : Bool} {off : Int} {tgt : Nat} (hd : decode M.2.2.1 pc = .ok (.ifCond .eq off, 3)) (ht : (pc : Int) + off = (tgt : Int)) (kt : b = false → zwp d M mc ms Q tgt ls st uc us m) (kf : b = true → zwp d M mc ms Q (pc + 3) ls st uc us m) : zwp d M mc ms Q pc ls (.int (bI b) :: st) uc us m :=
  zr_if_eq hd ht (fun q => kt (bI_eq0.mp q)) (fun q => kf (bI_ne0.mp q))
theorem zr_if_neB {b : Bool} {off : Int} {tgt : Nat} (hd : decode M.2.2.1 pc = .ok (.ifCond .ne off, 3)) (ht : (pc : Int) + off = (tgt : Int)) (kt : b = true → zwp d M mc ms Q tgt ls st uc us m) (kf : b = false → zwp d M mc ms Q (pc + 3) ls st uc us m) : zwp d M mc ms Q pc ls (.int (bI b) :: st) uc us m :=
  zr_if_ne hd ht (fun q => kt (bI_ne0.mp q)) (fun q => kf (bI_eq0.mp q))
theorem zr_zreturnB {b : Bool} (hd : decode M.2.2.1 pc = .ok (.ireturn, 1)) (hr : M.2.2.2.2.2 = some .boolean) (h1 : uc ≤ mc) (h2 : us ≤ ms) (hq : Q (.int (bI b)) m) : zwp d M mc ms Q pc ls [.int (bI b)] uc us m := zr_zreturn hd hr (bI_01 b) h1 h2 hq
theorem zr_z1 (hd : decode M.2.2.1 pc = .ok (.ireturn, 1)) (hr : M.2.2.2.2.2 = some .boolean) (h1 : uc ≤ mc) (h2 : us ≤ ms) {b : Bool} (hb : b = true) (hq : Q (.int (bI b)) m) : zwp d M mc ms Q pc ls [.int (nI 1)] uc us m := zr_zreturn hd hr (Or.inr rfl) h1 h2 (by rw [hb] at hq; exact hq)
theorem zr_z0 (hd : decode M.2.2.1 pc = .ok (.ireturn, 1)) (hr : M.2.2.2.2.2 = some .boolean) (h1 : uc ≤ mc) (h2 : us ≤ ms) {b : Bool} (hb : b = false) (hq : Q (.int (bI b)) m) : zwp d M mc ms Q pc ls [.int (nI 0)] uc us m := zr_zreturn hd hr (Or.inl rfl) h1 h2 (by rw [hb] at hq; exact hq)
theorem zr_cV0 {M' : zMeth} {idx a : Nat} {rt : FieldType} (hr : M'.2.2.2.2.2 = some rt) (hd : decode M.2.2.1 pc = .ok (.invokevirtual idx, 3)) (hv : zVs M.1 idx M' 0) (ho : zOb m a M'.1) (hcat : (st.map fun v => v.category).sum ≤ 8) (hc : zC d M' 0 0 [.ref a] m (fun v m' => zwp (d + 1) M 0 0 Q (pc + 3) ls (v :: st) 0 0 m')) : zwp (d + 1) M 0 0 Q pc ls (.ref a :: st) 0 0 m :=
  zr_callV (as := []) hd hv ho rfl rfl hcat (Nat.le_refl _) (Nat.le_refl _) (by rw [hr]; exact hc)
theorem zr_cS0 {M' : zMeth} {idx : Nat} {rt : FieldType} (hr : M'.2.2.2.2.2 = some rt) (hd : decode M.2.2.1 pc = .ok (.invokestatic idx, 3)) (hv : zSs M.1 idx M' 0) (hcat : (st.map fun v => v.category).sum ≤ 8) (hc : zC d M' 0 0 [] m (fun v m' => zwp (d + 1) M 0 0 Q (pc + 3) ls (v :: st) 0 0 m')) : zwp (d + 1) M 0 0 Q pc ls (st) 0 0 m :=
  zr_callS (as := []) hd hv rfl rfl hcat (Nat.le_refl _) (Nat.le_refl _) (by rw [hr]; exact hc)
theorem zr_cSN0 {M' : zMeth} {idx : Nat} {rt : FieldType} (hr : M'.2.2.2.2.2 = some rt) (hd : decode M.2.2.1 pc = .ok (.invokestatic idx, 3)) (hv : zSn M.1 idx M' 0) (hcat : (st.map fun v => v.category).sum ≤ 8) (hc : zC d M' 0 0 [] m (fun v m' => zwp (d + 1) M 0 0 Q (pc + 3) ls (v :: st) 0 0 m')) : zwp (d + 1) M 0 0 Q pc ls (st) 0 0 m :=
  zr_callSN (as := []) hd hv rfl rfl hcat (Nat.le_refl _) (Nat.le_refl _) (by rw [hr]; exact hc)
theorem zr_cV0v {M' : zMeth} {idx a : Nat} (hr : M'.2.2.2.2.2 = none) (hd : decode M.2.2.1 pc = .ok (.invokevirtual idx, 3)) (hv : zVs M.1 idx M' 0) (ho : zOb m a M'.1) (hcat : (st.map fun v => v.category).sum ≤ 8) (hc : zC d M' 0 0 [.ref a] m (fun v m' => zwp (d + 1) M 0 0 Q (pc + 3) ls (st) 0 0 m')) : zwp (d + 1) M 0 0 Q pc ls (.ref a :: st) 0 0 m :=
  zr_callV (as := []) hd hv ho rfl rfl hcat (Nat.le_refl _) (Nat.le_refl _) (by rw [hr]; exact hc)
theorem zr_cS0v {M' : zMeth} {idx : Nat} (hr : M'.2.2.2.2.2 = none) (hd : decode M.2.2.1 pc = .ok (.invokestatic idx, 3)) (hv : zSs M.1 idx M' 0) (hcat : (st.map fun v => v.category).sum ≤ 8) (hc : zC d M' 0 0 [] m (fun v m' => zwp (d + 1) M 0 0 Q (pc + 3) ls (st) 0 0 m')) : zwp (d + 1) M 0 0 Q pc ls (st) 0 0 m :=
  zr_callS (as := []) hd hv rfl rfl hcat (Nat.le_refl _) (Nat.le_refl _) (by rw [hr]; exact hc)
theorem zr_cSN0v {M' : zMeth} {idx : Nat} (hr : M'.2.2.2.2.2 = none) (hd : decode M.2.2.1 pc = .ok (.invokestatic idx, 3)) (hv : zSn M.1 idx M' 0) (hcat : (st.map fun v => v.category).sum ≤ 8) (hc : zC d M' 0 0 [] m (fun v m' => zwp (d + 1) M 0 0 Q (pc + 3) ls (st) 0 0 m')) : zwp (d + 1) M 0 0 Q pc ls (st) 0 0 m :=
  zr_callSN (as := []) hd hv rfl rfl hcat (Nat.le_refl _) (Nat.le_refl _) (by rw [hr]; exact hc)
theorem zr_cV1 {M' : zMeth} {idx a : Nat} {v1 : Value} {rt : FieldType} (hr : M'.2.2.2.2.2 = some rt) (hd : decode M.2.2.1 pc = .ok (.invokevirtual idx, 3)) (hv : zVs M.1 idx M' 1) (ho : zOb m a M'.1) (hcat : (st.map fun v => v.category).sum ≤ 8) (hc : zC d M' 0 0 [.ref a, v1] m (fun v m' => zwp (d + 1) M 0 0 Q (pc + 3) ls (v :: st) 0 0 m')) : zwp (d + 1) M 0 0 Q pc ls (v1 :: .ref a :: st) 0 0 m :=
  zr_callV (as := [v1]) hd hv ho rfl rfl hcat (Nat.le_refl _) (Nat.le_refl _) (by rw [hr]; exact hc)
theorem zr_cS1 {M' : zMeth} {idx : Nat} {v1 : Value} {rt : FieldType} (hr : M'.2.2.2.2.2 = some rt) (hd : decode M.2.2.1 pc = .ok (.invokestatic idx, 3)) (hv : zSs M.1 idx M' 1) (hcat : (st.map fun v => v.category).sum ≤ 8) (hc : zC d M' 0 0 [v1] m (fun v m' => zwp (d + 1) M 0 0 Q (pc + 3) ls (v :: st) 0 0 m')) : zwp (d + 1) M 0 0 Q pc ls (v1 :: st) 0 0 m :=
  zr_callS (as := [v1]) hd hv rfl rfl hcat (Nat.le_refl _) (Nat.le_refl _) (by rw [hr]; exact hc)
theorem zr_cSN1 {M' : zMeth} {idx : Nat} {v1 : Value} {rt : FieldType} (hr : M'.2.2.2.2.2 = some rt) (hd : decode M.2.2.1 pc = .ok (.invokestatic idx, 3)) (hv : zSn M.1 idx M' 1) (hcat : (st.map fun v => v.category).sum ≤ 8) (hc : zC d M' 0 0 [v1] m (fun v m' => zwp (d + 1) M 0 0 Q (pc + 3) ls (v :: st) 0 0 m')) : zwp (d + 1) M 0 0 Q pc ls (v1 :: st) 0 0 m :=
  zr_callSN (as := [v1]) hd hv rfl rfl hcat (Nat.le_refl _) (Nat.le_refl _) (by rw [hr]; exact hc)
theorem zr_cV1v {M' : zMeth} {idx a : Nat} {v1 : Value} (hr : M'.2.2.2.2.2 = none) (hd : decode M.2.2.1 pc = .ok (.invokevirtual idx, 3)) (hv : zVs M.1 idx M' 1) (ho : zOb m a M'.1) (hcat : (st.map fun v => v.category).sum ≤ 8) (hc : zC d M' 0 0 [.ref a, v1] m (fun v m' => zwp (d + 1) M 0 0 Q (pc + 3) ls (st) 0 0 m')) : zwp (d + 1) M 0 0 Q pc ls (v1 :: .ref a :: st) 0 0 m :=
  zr_callV (as := [v1]) hd hv ho rfl rfl hcat (Nat.le_refl _) (Nat.le_refl _) (by rw [hr]; exact hc)
theorem zr_cS1v {M' : zMeth} {idx : Nat} {v1 : Value} (hr : M'.2.2.2.2.2 = none) (hd : decode M.2.2.1 pc = .ok (.invokestatic idx, 3)) (hv : zSs M.1 idx M' 1) (hcat : (st.map fun v => v.category).sum ≤ 8) (hc : zC d M' 0 0 [v1] m (fun v m' => zwp (d + 1) M 0 0 Q (pc + 3) ls (st) 0 0 m')) : zwp (d + 1) M 0 0 Q pc ls (v1 :: st) 0 0 m :=
  zr_callS (as := [v1]) hd hv rfl rfl hcat (Nat.le_refl _) (Nat.le_refl _) (by rw [hr]; exact hc)
theorem zr_cSN1v {M' : zMeth} {idx : Nat} {v1 : Value} (hr : M'.2.2.2.2.2 = none) (hd : decode M.2.2.1 pc = .ok (.invokestatic idx, 3)) (hv : zSn M.1 idx M' 1) (hcat : (st.map fun v => v.category).sum ≤ 8) (hc : zC d M' 0 0 [v1] m (fun v m' => zwp (d + 1) M 0 0 Q (pc + 3) ls (st) 0 0 m')) : zwp (d + 1) M 0 0 Q pc ls (v1 :: st) 0 0 m :=
  zr_callSN (as := [v1]) hd hv rfl rfl hcat (Nat.le_refl _) (Nat.le_refl _) (by rw [hr]; exact hc)
theorem zr_cV2 {M' : zMeth} {idx a : Nat} {v1 v2 : Value} {rt : FieldType} (hr : M'.2.2.2.2.2 = some rt) (hd : decode M.2.2.1 pc = .ok (.invokevirtual idx, 3)) (hv : zVs M.1 idx M' 2) (ho : zOb m a M'.1) (hcat : (st.map fun v => v.category).sum ≤ 8) (hc : zC d M' 0 0 [.ref a, v1, v2] m (fun v m' => zwp (d + 1) M 0 0 Q (pc + 3) ls (v :: st) 0 0 m')) : zwp (d + 1) M 0 0 Q pc ls (v2 :: v1 :: .ref a :: st) 0 0 m :=
  zr_callV (as := [v1, v2]) hd hv ho rfl rfl hcat (Nat.le_refl _) (Nat.le_refl _) (by rw [hr]; exact hc)
theorem zr_cS2 {M' : zMeth} {idx : Nat} {v1 v2 : Value} {rt : FieldType} (hr : M'.2.2.2.2.2 = some rt) (hd : decode M.2.2.1 pc = .ok (.invokestatic idx, 3)) (hv : zSs M.1 idx M' 2) (hcat : (st.map fun v => v.category).sum ≤ 8) (hc : zC d M' 0 0 [v1, v2] m (fun v m' => zwp (d + 1) M 0 0 Q (pc + 3) ls (v :: st) 0 0 m')) : zwp (d + 1) M 0 0 Q pc ls (v2 :: v1 :: st) 0 0 m :=
  zr_callS (as := [v1, v2]) hd hv rfl rfl hcat (Nat.le_refl _) (Nat.le_refl _) (by rw [hr]; exact hc)
theorem zr_cSN2 {M' : zMeth} {idx : Nat} {v1 v2 : Value} {rt : FieldType} (hr : M'.2.2.2.2.2 = some rt) (hd : decode M.2.2.1 pc = .ok (.invokestatic idx, 3)) (hv : zSn M.1 idx M' 2) (hcat : (st.map fun v => v.category).sum ≤ 8) (hc : zC d M' 0 0 [v1, v2] m (fun v m' => zwp (d + 1) M 0 0 Q (pc + 3) ls (v :: st) 0 0 m')) : zwp (d + 1) M 0 0 Q pc ls (v2 :: v1 :: st) 0 0 m :=
  zr_callSN (as := [v1, v2]) hd hv rfl rfl hcat (Nat.le_refl _) (Nat.le_refl _) (by rw [hr]; exact hc)
theorem zr_cV2v {M' : zMeth} {idx a : Nat} {v1 v2 : Value} (hr : M'.2.2.2.2.2 = none) (hd : decode M.2.2.1 pc = .ok (.invokevirtual idx, 3)) (hv : zVs M.1 idx M' 2) (ho : zOb m a M'.1) (hcat : (st.map fun v => v.category).sum ≤ 8) (hc : zC d M' 0 0 [.ref a, v1, v2] m (fun v m' => zwp (d + 1) M 0 0 Q (pc + 3) ls (st) 0 0 m')) : zwp (d + 1) M 0 0 Q pc ls (v2 :: v1 :: .ref a :: st) 0 0 m :=
  zr_callV (as := [v1, v2]) hd hv ho rfl rfl hcat (Nat.le_refl _) (Nat.le_refl _) (by rw [hr]; exact hc)
theorem zr_cS2v {M' : zMeth} {idx : Nat} {v1 v2 : Value} (hr : M'.2.2.2.2.2 = none) (hd : decode M.2.2.1 pc = .ok (.invokestatic idx, 3)) (hv : zSs M.1 idx M' 2) (hcat : (st.map fun v => v.category).sum ≤ 8) (hc : zC d M' 0 0 [v1, v2] m (fun v m' => zwp (d + 1) M 0 0 Q (pc + 3) ls (st) 0 0 m')) : zwp (d + 1) M 0 0 Q pc ls (v2 :: v1 :: st) 0 0 m :=
  zr_callS (as := [v1, v2]) hd hv rfl rfl hcat (Nat.le_refl _) (Nat.le_refl _) (by rw [hr]; exact hc)
theorem zr_cSN2v {M' : zMeth} {idx : Nat} {v1 v2 : Value} (hr : M'.2.2.2.2.2 = none) (hd : decode M.2.2.1 pc = .ok (.invokestatic idx, 3)) (hv : zSn M.1 idx M' 2) (hcat : (st.map fun v => v.category).sum ≤ 8) (hc : zC d M' 0 0 [v1, v2] m (fun v m' => zwp (d + 1) M 0 0 Q (pc + 3) ls (st) 0 0 m')) : zwp (d + 1) M 0 0 Q pc ls (v2 :: v1 :: st) 0 0 m :=
  zr_callSN (as := [v1, v2]) hd hv rfl rfl hcat (Nat.le_refl _) (Nat.le_refl _) (by rw [hr]; exact hc)
theorem zr_cV3 {M' : zMeth} {idx a : Nat} {v1 v2 v3 : Value} {rt : FieldType} (hr : M'.2.2.2.2.2 = some rt) (hd : decode M.2.2.1 pc = .ok (.invokevirtual idx, 3)) (hv : zVs M.1 idx M' 3) (ho : zOb m a M'.1) (hcat : (st.map fun v => v.category).sum ≤ 8) (hc : zC d M' 0 0 [.ref a, v1, v2, v3] m (fun v m' => zwp (d + 1) M 0 0 Q (pc + 3) ls (v :: st) 0 0 m')) : zwp (d + 1) M 0 0 Q pc ls (v3 :: v2 :: v1 :: .ref a :: st) 0 0 m :=
  zr_callV (as := [v1, v2, v3]) hd hv ho rfl rfl hcat (Nat.le_refl _) (Nat.le_refl _) (by rw [hr]; exact hc)
theorem zr_cS3 {M' : zMeth} {idx : Nat} {v1 v2 v3 : Value} {rt : FieldType} (hr : M'.2.2.2.2.2 = some rt) (hd : decode M.2.2.1 pc = .ok (.invokestatic idx, 3)) (hv : zSs M.1 idx M' 3) (hcat : (st.map fun v => v.category).sum ≤ 8) (hc : zC d M' 0 0 [v1, v2, v3] m (fun v m' => zwp (d + 1) M 0 0 Q (pc + 3) ls (v :: st) 0 0 m')) : zwp (d + 1) M 0 0 Q pc ls (v3 :: v2 :: v1 :: st) 0 0 m :=
  zr_callS (as := [v1, v2, v3]) hd hv rfl rfl hcat (Nat.le_refl _) (Nat.le_refl _) (by rw [hr]; exact hc)
theorem zr_cSN3 {M' : zMeth} {idx : Nat} {v1 v2 v3 : Value} {rt : FieldType} (hr : M'.2.2.2.2.2 = some rt) (hd : decode M.2.2.1 pc = .ok (.invokestatic idx, 3)) (hv : zSn M.1 idx M' 3) (hcat : (st.map fun v => v.category).sum ≤ 8) (hc : zC d M' 0 0 [v1, v2, v3] m (fun v m' => zwp (d + 1) M 0 0 Q (pc + 3) ls (v :: st) 0 0 m')) : zwp (d + 1) M 0 0 Q pc ls (v3 :: v2 :: v1 :: st) 0 0 m :=
  zr_callSN (as := [v1, v2, v3]) hd hv rfl rfl hcat (Nat.le_refl _) (Nat.le_refl _) (by rw [hr]; exact hc)
theorem zr_cV3v {M' : zMeth} {idx a : Nat} {v1 v2 v3 : Value} (hr : M'.2.2.2.2.2 = none) (hd : decode M.2.2.1 pc = .ok (.invokevirtual idx, 3)) (hv : zVs M.1 idx M' 3) (ho : zOb m a M'.1) (hcat : (st.map fun v => v.category).sum ≤ 8) (hc : zC d M' 0 0 [.ref a, v1, v2, v3] m (fun v m' => zwp (d + 1) M 0 0 Q (pc + 3) ls (st) 0 0 m')) : zwp (d + 1) M 0 0 Q pc ls (v3 :: v2 :: v1 :: .ref a :: st) 0 0 m :=
  zr_callV (as := [v1, v2, v3]) hd hv ho rfl rfl hcat (Nat.le_refl _) (Nat.le_refl _) (by rw [hr]; exact hc)
theorem zr_cS3v {M' : zMeth} {idx : Nat} {v1 v2 v3 : Value} (hr : M'.2.2.2.2.2 = none) (hd : decode M.2.2.1 pc = .ok (.invokestatic idx, 3)) (hv : zSs M.1 idx M' 3) (hcat : (st.map fun v => v.category).sum ≤ 8) (hc : zC d M' 0 0 [v1, v2, v3] m (fun v m' => zwp (d + 1) M 0 0 Q (pc + 3) ls (st) 0 0 m')) : zwp (d + 1) M 0 0 Q pc ls (v3 :: v2 :: v1 :: st) 0 0 m :=
  zr_callS (as := [v1, v2, v3]) hd hv rfl rfl hcat (Nat.le_refl _) (Nat.le_refl _) (by rw [hr]; exact hc)
theorem zr_cSN3v {M' : zMeth} {idx : Nat} {v1 v2 v3 : Value} (hr : M'.2.2.2.2.2 = none) (hd : decode M.2.2.1 pc = .ok (.invokestatic idx, 3)) (hv : zSn M.1 idx M' 3) (hcat : (st.map fun v => v.category).sum ≤ 8) (hc : zC d M' 0 0 [v1, v2, v3] m (fun v m' => zwp (d + 1) M 0 0 Q (pc + 3) ls (st) 0 0 m')) : zwp (d + 1) M 0 0 Q pc ls (v3 :: v2 :: v1 :: st) 0 0 m :=
  zr_callSN (as := [v1, v2, v3]) hd hv rfl rfl hcat (Nat.le_refl _) (Nat.le_refl _) (by rw [hr]; exact hc)
theorem zr_cV4 {M' : zMeth} {idx a : Nat} {v1 v2 v3 v4 : Value} {rt : FieldType} (hr : M'.2.2.2.2.2 = some rt) (hd : decode M.2.2.1 pc = .ok (.invokevirtual idx, 3)) (hv : zVs M.1 idx M' 4) (ho : zOb m a M'.1) (hcat : (st.map fun v => v.category).sum ≤ 8) (hc : zC d M' 0 0 [.ref a, v1, v2, v3, v4] m (fun v m' => zwp (d + 1) M 0 0 Q (pc + 3) ls (v :: st) 0 0 m')) : zwp (d + 1) M 0 0 Q pc ls (v4 :: v3 :: v2 :: v1 :: .ref a :: st) 0 0 m :=
  zr_callV (as := [v1, v2, v3, v4]) hd hv ho rfl rfl hcat (Nat.le_refl _) (Nat.le_refl _) (by rw [hr]; exact hc)
theorem zr_cS4 {M' : zMeth} {idx : Nat} {v1 v2 v3 v4 : Value} {rt : FieldType} (hr : M'.2.2.2.2.2 = some rt) (hd : decode M.2.2.1 pc = .ok (.invokestatic idx, 3)) (hv : zSs M.1 idx M' 4) (hcat : (st.map fun v => v.category).sum ≤ 8) (hc : zC d M' 0 0 [v1, v2, v3, v4] m (fun v m' => zwp (d + 1) M 0 0 Q (pc + 3) ls (v :: st) 0 0 m')) : zwp (d + 1) M 0 0 Q pc ls (v4 :: v3 :: v2 :: v1 :: st) 0 0 m :=
  zr_callS (as := [v1, v2, v3, v4]) hd hv rfl rfl hcat (Nat.le_refl _) (Nat.le_refl _) (by rw [hr]; exact hc)
theorem zr_cSN4 {M' : zMeth} {idx : Nat} {v1 v2 v3 v4 : Value} {rt : FieldType} (hr : M'.2.2.2.2.2 = some rt) (hd : decode M.2.2.1 pc = .ok (.invokestatic idx, 3)) (hv : zSn M.1 idx M' 4) (hcat : (st.map fun v => v.category).sum ≤ 8) (hc : zC d M' 0 0 [v1, v2, v3, v4] m (fun v m' => zwp (d + 1) M 0 0 Q (pc + 3) ls (v :: st) 0 0 m')) : zwp (d + 1) M 0 0 Q pc ls (v4 :: v3 :: v2 :: v1 :: st) 0 0 m :=
  zr_callSN (as := [v1, v2, v3, v4]) hd hv rfl rfl hcat (Nat.le_refl _) (Nat.le_refl _) (by rw [hr]; exact hc)
theorem zr_cV4v {M' : zMeth} {idx a : Nat} {v1 v2 v3 v4 : Value} (hr : M'.2.2.2.2.2 = none) (hd : decode M.2.2.1 pc = .ok (.invokevirtual idx, 3)) (hv : zVs M.1 idx M' 4) (ho : zOb m a M'.1) (hcat : (st.map fun v => v.category).sum ≤ 8) (hc : zC d M' 0 0 [.ref a, v1, v2, v3, v4] m (fun v m' => zwp (d + 1) M 0 0 Q (pc + 3) ls (st) 0 0 m')) : zwp (d + 1) M 0 0 Q pc ls (v4 :: v3 :: v2 :: v1 :: .ref a :: st) 0 0 m :=
  zr_callV (as := [v1, v2, v3, v4]) hd hv ho rfl rfl hcat (Nat.le_refl _) (Nat.le_refl _) (by rw [hr]; exact hc)
theorem zr_cS4v {M' : zMeth} {idx : Nat} {v1 v2 v3 v4 : Value} (hr : M'.2.2.2.2.2 = none) (hd : decode M.2.2.1 pc = .ok (.invokestatic idx, 3)) (hv : zSs M.1 idx M' 4) (hcat : (st.map fun v => v.category).sum ≤ 8) (hc : zC d M' 0 0 [v1, v2, v3, v4] m (fun v m' => zwp (d + 1) M 0 0 Q (pc + 3) ls (st) 0 0 m')) : zwp (d + 1) M 0 0 Q pc ls (v4 :: v3 :: v2 :: v1 :: st) 0 0 m :=
  zr_callS (as := [v1, v2, v3, v4]) hd hv rfl rfl hcat (Nat.le_refl _) (Nat.le_refl _) (by rw [hr]; exact hc)
theorem zr_cSN4v {M' : zMeth} {idx : Nat} {v1 v2 v3 v4 : Value} (hr : M'.2.2.2.2.2 = none) (hd : decode M.2.2.1 pc = .ok (.invokestatic idx, 3)) (hv : zSn M.1 idx M' 4) (hcat : (st.map fun v => v.category).sum ≤ 8) (hc : zC d M' 0 0 [v1, v2, v3, v4] m (fun v m' => zwp (d + 1) M 0 0 Q (pc + 3) ls (st) 0 0 m')) : zwp (d + 1) M 0 0 Q pc ls (v4 :: v3 :: v2 :: v1 :: st) 0 0 m :=
  zr_callSN (as := [v1, v2, v3, v4]) hd hv rfl rfl hcat (Nat.le_refl _) (Nat.le_refl _) (by rw [hr]; exact hc)
theorem zr_cV5 {M' : zMeth} {idx a : Nat} {v1 v2 v3 v4 v5 : Value} {rt : FieldType} (hr : M'.2.2.2.2.2 = some rt) (hd : decode M.2.2.1 pc = .ok (.invokevirtual idx, 3)) (hv : zVs M.1 idx M' 5) (ho : zOb m a M'.1) (hcat : (st.map fun v => v.category).sum ≤ 8) (hc : zC d M' 0 0 [.ref a, v1, v2, v3, v4, v5] m (fun v m' => zwp (d + 1) M 0 0 Q (pc + 3) ls (v :: st) 0 0 m')) : zwp (d + 1) M 0 0 Q pc ls (v5 :: v4 :: v3 :: v2 :: v1 :: .ref a :: st) 0 0 m :=
  zr_callV (as := [v1, v2, v3, v4, v5]) hd hv ho rfl rfl hcat (Nat.le_refl _) (Nat.le_refl _) (by rw [hr]; exact hc)
theorem zr_cS5 {M' : zMeth} {idx : Nat} {v1 v2 v3 v4 v5 : Value} {rt : FieldType} (hr : M'.2.2.2.2.2 = some rt) (hd : decode M.2.2.1 pc = .ok (.invokestatic idx, 3)) (hv : zSs M.1 idx M' 5) (hcat : (st.map fun v => v.category).sum ≤ 8) (hc : zC d M' 0 0 [v1, v2, v3, v4, v5] m (fun v m' => zwp (d + 1) M 0 0 Q (pc + 3) ls (v :: st) 0 0 m')) : zwp (d + 1) M 0 0 Q pc ls (v5 :: v4 :: v3 :: v2 :: v1 :: st) 0 0 m :=
  zr_callS (as := [v1, v2, v3, v4, v5]) hd hv rfl rfl hcat (Nat.le_refl _) (Nat.le_refl _) (by rw [hr]; exact hc)
theorem zr_cSN5 {M' : zMeth} {idx : Nat} {v1 v2 v3 v4 v5 : Value} {rt : FieldType} (hr : M'.2.2.2.2.2 = some rt) (hd : decode M.2.2.1 pc = .ok (.invokestatic idx, 3)) (hv : zSn M.1 idx M' 5) (hcat : (st.map fun v => v.category).sum ≤ 8) (hc : zC d M' 0 0 [v1, v2, v3, v4, v5] m (fun v m' => zwp (d + 1) M 0 0 Q (pc + 3) ls (v :: st) 0 0 m')) : zwp (d + 1) M 0 0 Q pc ls (v5 :: v4 :: v3 :: v2 :: v1 :: st) 0 0 m :=
  zr_callSN (as := [v1, v2, v3, v4, v5]) hd hv rfl rfl hcat (Nat.le_refl _) (Nat.le_refl _) (by rw [hr]; exact hc)
theorem zr_cV5v {M' : zMeth} {idx a : Nat} {v1 v2 v3 v4 v5 : Value} (hr : M'.2.2.2.2.2 = none) (hd : decode M.2.2.1 pc = .ok (.invokevirtual idx, 3)) (hv : zVs M.1 idx M' 5) (ho : zOb m a M'.1) (hcat : (st.map fun v => v.category).sum ≤ 8) (hc : zC d M' 0 0 [.ref a, v1, v2, v3, v4, v5] m (fun v m' => zwp (d + 1) M 0 0 Q (pc + 3) ls (st) 0 0 m')) : zwp (d + 1) M 0 0 Q pc ls (v5 :: v4 :: v3 :: v2 :: v1 :: .ref a :: st) 0 0 m :=
  zr_callV (as := [v1, v2, v3, v4, v5]) hd hv ho rfl rfl hcat (Nat.le_refl _) (Nat.le_refl _) (by rw [hr]; exact hc)
theorem zr_cS5v {M' : zMeth} {idx : Nat} {v1 v2 v3 v4 v5 : Value} (hr : M'.2.2.2.2.2 = none) (hd : decode M.2.2.1 pc = .ok (.invokestatic idx, 3)) (hv : zSs M.1 idx M' 5) (hcat : (st.map fun v => v.category).sum ≤ 8) (hc : zC d M' 0 0 [v1, v2, v3, v4, v5] m (fun v m' => zwp (d + 1) M 0 0 Q (pc + 3) ls (st) 0 0 m')) : zwp (d + 1) M 0 0 Q pc ls (v5 :: v4 :: v3 :: v2 :: v1 :: st) 0 0 m :=
  zr_callS (as := [v1, v2, v3, v4, v5]) hd hv rfl rfl hcat (Nat.le_refl _) (Nat.le_refl _) (by rw [hr]; exact hc)
theorem zr_cSN5v {M' : zMeth} {idx : Nat} {v1 v2 v3 v4 v5 : Value} (hr : M'.2.2.2.2.2 = none) (hd : decode M.2.2.1 pc = .ok (.invokestatic idx, 3)) (hv : zSn M.1 idx M' 5) (hcat : (st.map fun v => v.category).sum ≤ 8) (hc : zC d M' 0 0 [v1, v2, v3, v4, v5] m (fun v m' => zwp (d + 1) M 0 0 Q (pc + 3) ls (st) 0 0 m')) : zwp (d + 1) M 0 0 Q pc ls (v5 :: v4 :: v3 :: v2 :: v1 :: st) 0 0 m :=
  zr_callSN (as := [v1, v2, v3, v4, v5]) hd hv rfl rfl hcat (Nat.le_refl _) (Nat.le_refl _) (by rw [hr]; exact hc)
theorem zr_cV6 {M' : zMeth} {idx a : Nat} {v1 v2 v3 v4 v5 v6 : Value} {rt : FieldType} (hr : M'.2.2.2.2.2 = some rt) (hd : decode M.2.2.1 pc = .ok (.invokevirtual idx, 3)) (hv : zVs M.1 idx M' 6) (ho : zOb m a M'.1) (hcat : (st.map fun v => v.category).sum ≤ 8) (hc : zC d M' 0 0 [.ref a, v1, v2, v3, v4, v5, v6] m (fun v m' => zwp (d + 1) M 0 0 Q (pc + 3) ls (v :: st) 0 0 m')) : zwp (d + 1) M 0 0 Q pc ls (v6 :: v5 :: v4 :: v3 :: v2 :: v1 :: .ref a :: st) 0 0 m :=
  zr_callV (as := [v1, v2, v3, v4, v5, v6]) hd hv ho rfl rfl hcat (Nat.le_refl _) (Nat.le_refl _) (by rw [hr]; exact hc)
theorem zr_cV6v {M' : zMeth} {idx a : Nat} {v1 v2 v3 v4 v5 v6 : Value} (hr : M'.2.2.2.2.2 = none) (hd : decode M.2.2.1 pc = .ok (.invokevirtual idx, 3)) (hv : zVs M.1 idx M' 6) (ho : zOb m a M'.1) (hcat : (st.map fun v => v.category).sum ≤ 8) (hc : zC d M' 0 0 [.ref a, v1, v2, v3, v4, v5, v6] m (fun v m' => zwp (d + 1) M 0 0 Q (pc + 3) ls (st) 0 0 m')) : zwp (d + 1) M 0 0 Q pc ls (v6 :: v5 :: v4 :: v3 :: v2 :: v1 :: .ref a :: st) 0 0 m :=
  zr_callV (as := [v1, v2, v3, v4, v5, v6]) hd hv ho rfl rfl hcat (Nat.le_refl _) (Nat.le_refl _) (by rw [hr]; exact hc)
end
end
section
/-! ===== what a link is: records and entries as rows of numbers, hosts, counts ===== -/
abbrev sR : Type := Nat → Int32
def z0 : sR := fun _ => 0
def zat (l : List sR) (i k : Nat) : Int32 := (l.getD i z0) k
/-- a host: awake (1 or 0), its proxy, its records, its cache -/
abbrev sH : Type := Int32 × Int32 × List sR × List sR
/-- a link: the counts (1 time, 2 said, 3 probed, 4 moved, 5 held, 6 said at the last tick), the rate, the number of hosts, the hosts -/
abbrev sS : Type := (Nat → Int32) × UInt32 × Nat × (Nat → sH)
def sone (a b : sR) : Bool := a 0 == b 0 && a 1 == b 1
def ssame (a b : sR) : Bool := sone a b && a 2 == b 2
def snam (a : sR) (n k : Int32) : Bool := a 0 == n && a 1 == k
def sown (a : sR) : Bool := a 4 == 3
def sawk (x : sH) : Bool := x.1 == 1
def sstd (s : sS) (h : Nat) : Bool := sawk (s.2.2.2 h) || ((s.2.2.2 h).2.1 != -1 && sawk (s.2.2.2 (s.2.2.2 h).2.1.toNatClampNeg))
def sdef (s : sS) (h : Nat) (r : sR) : Bool := sown r && r 6 == 1 && sstd s h
/-- an update of a function -/
def fu {α : Type} (f : Nat → α) (k : Nat) (v : α) : Nat → α := fun j => if j = k then v else f j
/-- f 0, then f 1, .. up to f (n - 1) -/
def fR {α : Type} (f : Nat → α → α) : Nat → α → α
  | 0, a => a
  | n + 1, a => f n (fR f n a)
def anyN (p : Nat → Bool) : Nat → Bool
  | 0 => false
  | n + 1 => anyN p n || p n
def cntN (p : Nat → Bool) : Nat → Nat
  | 0 => 0
  | n + 1 => cntN p n + (if p n then 1 else 0)
theorem fu_s {α : Type} (f : Nat → α) (k : Nat) (v : α) : fu f k v k = v := by simp [fu]
theorem fu_n {α : Type} (f : Nat → α) {k j : Nat} (v : α) (h : j ≠ k) : fu f k v j = f j := by simp [fu, h]
theorem anyN_iff {p : Nat → Bool} {n : Nat} : anyN p n = true ↔ ∃ i, i < n ∧ p i = true := by
  induction n with
  | zero => simp [anyN]
  | succ n ih =>
    rw [anyN, Bool.or_eq_true, ih]
    constructor
    · rintro (⟨i, h1, h2⟩ | h)
      · exact ⟨i, by omega, h2⟩
      · exact ⟨n, by omega, h⟩
    · rintro ⟨i, h1, h2⟩
      by_cases e : i = n
      · subst e; exact Or.inr h2
      · exact Or.inl ⟨i, by omega, h2⟩
theorem anyN_false {p : Nat → Bool} {n : Nat} : anyN p n = false ↔ ∀ i, i < n → p i = false := by
  rw [← Bool.not_eq_true, anyN_iff]
  constructor
  · intro h i hi
    rw [← Bool.not_eq_true]
    exact fun z => h ⟨i, hi, z⟩
  · rintro h ⟨i, hi, z⟩
    rw [h i hi] at z
    cases z
theorem any_anyN (l : List sR) (p : sR → Bool) : l.any p = anyN (fun i => p (l.getD i z0)) l.length := by
  rw [Bool.eq_iff_iff, anyN_iff, List.any_eq_true]
  constructor
  · rintro ⟨x, hx, hp⟩
    obtain ⟨i, hi, he⟩ := List.getElem_of_mem hx
    exact ⟨i, hi, by simp [List.getD, hi, he, hp]⟩
  · rintro ⟨i, hi, hp⟩
    exact ⟨l[i], List.getElem_mem hi, by simpa [List.getD, hi] using hp⟩
theorem cntN_le (p : Nat → Bool) (n : Nat) : cntN p n ≤ n := by
  induction n with
  | zero => simp [cntN]
  | succ n ih => rw [cntN]; split <;> omega
/-! places of lists -/
theorem zat_app_l {l l' : List sR} {i k : Nat} (h : i < l.length) : zat (l ++ l') i k = zat l i k := by
  simp [zat, List.getD, List.getElem?_append_left h]
theorem zat_app_r {l : List sR} {x : sR} {k : Nat} : zat (l ++ [x]) l.length k = x k := by
  simp [zat, List.getD]
theorem zat_erase {l : List sR} {j i k : Nat} : zat (l.eraseIdx j) i k = if i < j then zat l i k else zat l (i + 1) k := by
  simp only [zat, List.getD, List.getElem?_eraseIdx]
  split <;> rfl
theorem zat_set {l : List sR} {j i k : Nat} {x : sR} (h : j < l.length) : zat (l.set j x) i k = if i = j then x k else zat l i k := by
  simp only [zat, List.getD, List.getElem?_set]
  by_cases e : j = i
  · subst e; simp [h]
  · rw [if_neg e, if_neg (fun z => e z.symm)]
theorem zat_map {l : List sR} {i k : Nat} {f : sR → sR} (h : i < l.length) : zat (l.map f) i k = f (l.getD i z0) k := by
  simp [zat, List.getD, h]
theorem zat_drop {l : List sR} {j i k : Nat} : zat (l.drop j) i k = zat l (j + i) k := by
  simp [zat, List.getD, List.getElem?_drop]
theorem zat_take {l : List sR} {j i k : Nat} (h : i < j) : zat (l.take j) i k = zat l i k := by
  simp [zat, List.getD, List.getElem?_take, h]
/-! what happens -/
def sshort (t : Int32) (e : sR) : sR := fun k => if k = 4 then (if t + 1 < e 4 then t + 1 else e 4) else e k
def sent (t : Int32) (r : sR) : sR := fun k => if k = 4 then t + r 3 else r k
def shc1 (x : sH) (r : sR) : List sR := x.2.2.2.filter (fun e => !ssame e r)
def shc2 (x : sH) (r : sR) : List sR := if (shc1 x r).length = 6 then (shc1 x r).eraseIdx 0 else shc1 x r
def shc3 (t : Int32) (x : sH) (r : sR) : List sR := shc2 x r ++ [sent t r]
def srival (t : Int32) (r e : sR) : sR := if sone e r && !ssame e r then sshort t e else e
def shear (t : Int32) (x : sH) (r : sR) : sH :=
  if sawk x && !(x.2.2.1.any (fun a => ssame a r)) then (x.1, x.2.1, x.2.2.1, if r 6 == 1 then (shc3 t x r).map (srival t r) else shc3 t x r) else x
def scnt (s : sS) (k : Nat) (v : Int32) : sS := (fu s.1 k v, s.2)
def shst (s : sS) (h : Nat) (x : sH) : sS := (s.1, s.2.1, s.2.2.1, fu s.2.2.2 h x)
/-- the hosts below k, but 'by', have heard it -/
def sheard (s : sS) (b : Nat) (r : sR) (k : Nat) : sS := (s.1, s.2.1, s.2.2.1, fun h => if h < k ∧ h ≠ b then shear (s.1 1) (s.2.2.2 h) r else s.2.2.2 h)
def ssays (s : sS) (b : Nat) (r : sR) : sS := scnt (sheard s b r s.2.2.1) 2 (s.1 2 + 1)
def shostNow (s : sS) : sS := (s.1, s.2.1, s.2.2.1 + 1, fu s.2.2.2 s.2.2.1 (1, -1, [], []))
def srec (name kind data life : Int32) (sole : Bool) : sR := fun k => if k = 0 then name else if k = 1 then kind else if k = 2 then data else if k = 3 then life else if k = 4 then (if sole then 0 else 3) else if k = 5 then 0 else bI sole
def sadd (s : sS) (h : Nat) (r : sR) : sS := shst s h ((s.2.2.2 h).1, (s.2.2.2 h).2.1, (s.2.2.2 h).2.2.1 ++ [r], (s.2.2.2 h).2.2.2)
def srecordNow (s : sS) (h : Nat) (r : sR) (sole : Bool) : sS := if sole then sadd s h r else ssays (sadd s h r) h r
def sbye (t : Int32) (r : sR) (x : sH) : sH := if sawk x then (x.1, x.2.1, x.2.2.1, x.2.2.2.map (fun e => if ssame e r then sshort t e else e)) else x
/-- the goodbye, as far as the hosts below k -/
def sbyeN (s : sS) (r : sR) (k : Nat) : sS := (s.1, s.2.1, s.2.2.1, fun h => if h < k then sbye (s.1 1) r (s.2.2.2 h) else s.2.2.2 h)
def sdrop (s : sS) (h r : Nat) : sS := shst s h ((s.2.2.2 h).1, (s.2.2.2 h).2.1, (s.2.2.2 h).2.2.1.eraseIdx r, (s.2.2.2 h).2.2.2)
def sleave (s : sS) (h r : Nat) : sS :=
  let a := (s.2.2.2 h).2.2.1.getD r z0
  if sown a then sdrop (scnt (sbyeN s a s.2.2.1) 2 (s.1 2 + 1)) h r else sdrop s h r
def sin (x lo hi : Int32) : Bool := decide (lo ≤ x) && decide (x ≤ hi)
def sisH (s : sS) (h : Int32) : Bool := decide (0 ≤ h) && decide (h < nI s.2.2.1)
def sisN (name kind : Int32) : Bool := sin name 0 15 && sin kind 0 3
def scanRecord (s : sS) (h name kind data life : Int32) : Int32 :=
  if !sisH s h || !sisN name kind || !sin data 0 255 || !sin life 2 60 then -2
  else if !(sawk (s.2.2.2 h.toNatClampNeg)) || (s.2.2.2 h.toNatClampNeg).2.2.1.any (fun a => snam a name kind) then -3
  else if (s.2.2.2 h.toNatClampNeg).2.2.1.length = 5 then -4 else 0
/-- a tick's first part: entries end, in the hosts below k -/
def saged (t : Int32) (x : sH) : sH := (x.1, x.2.1, x.2.2.1, x.2.2.2.filter (fun e => decide (t < e 4)))
def sages (s : sS) (k : Nat) : sS := (fu s.1 1 (s.1 1 + 1), s.2.1, s.2.2.1, fun h => if h < k then saged (s.1 1 + 1) (s.2.2.2 h) else s.2.2.2 h)
def sopp (s : sS) (h : Nat) (r : sR) : Bool := anyN (fun o => o != h && (s.2.2.2 o).2.2.1.any (fun a => sdef s o a && (sone a r && !ssame a r))) s.2.2.1
def soutb (s : sS) (h : Nat) (r : sR) : Bool := anyN (fun o => o != h && sawk (s.2.2.2 o) && (s.2.2.2 o).2.2.1.any (fun a => !sown a && (sone a r && decide (r 2 < a 2)))) s.2.2.1
/-- a record's field is set -/
def ssetr (s : sS) (h r : Nat) (x : sR) : sS := shst s h ((s.2.2.2 h).1, (s.2.2.2 h).2.1, (s.2.2.2 h).2.2.1.set r x, (s.2.2.2 h).2.2.2)
def sadv (s : sS) (h r : Nat) : sS :=
  let a := (s.2.2.2 h).2.2.1.getD r z0
  if !(sawk (s.2.2.2 h)) || sown a then s
  else if 0 < a 5 then ssetr s h r (fu a 5 (a 5 - 1))
  else
    let s1 := scnt s 3 (s.1 3 + 1)
    if sopp s1 h a then scnt (ssetr s1 h r (fu (fu (fu a 0 (a 0 + 1 - (a 0 + 1) / 16 * 16)) 4 0) 5 0)) 4 (s1.1 4 + 1)
    else if soutb s1 h a then ssetr s1 h r (fu (fu a 4 0) 5 1)
    else if a 4 + 1 = 3 then ssays (ssetr s1 h r (fu a 4 (a 4 + 1))) h (fu a 4 (a 4 + 1)) else ssetr s1 h r (fu a 4 (a 4 + 1))
def sadvH (s : sS) (h : Nat) : sS := fR (fun r s => sadv s h r) (s.2.2.2 h).2.2.1.length s
def srate (s : sS) : sS := (fu s.1 6 (s.1 2), FP.fadd (FP.fmul s.2.1 1061158912) (FP.fmul (FP.i2f (s.1 2 - s.1 6)) 1048576000), s.2.2)
def stick (s : sS) : sS := srate (fR (fun h s => sadvH s h) s.2.2.1 (sages s s.2.2.1))
def sticks (s : sS) (n : Nat) : sS := fR (fun _ s => stick s) n s
/-! what is asked -/
def sownN (l : List sR) : Nat := cntN (fun i => sown (l.getD i z0)) l.length
def sstood (s : sS) (h : Nat) : Nat → Int32
  | 0 => 0
  | o + 1 => sstood s h o ||| (if (s.2.2.2 o).2.1 = nI h then 1 <<< (nI o &&& 31) else 0)
def sof (s : sS) (h : Nat) (what : Nat) : Int32 :=
  if what = 0 then nI (s.2.2.2 h).2.2.1.length else if what = 1 then (s.2.2.2 h).1 else if what = 2 then (s.2.2.2 h).2.1 else if what = 3 then nI (s.2.2.2 h).2.2.2.length
  else if what = 4 then nI (sownN (s.2.2.2 h).2.2.1) else sstood s h s.2.2.1
def srecth (s : sS) (h r what : Nat) : Int32 := if what = 7 then bI (sdef s h ((s.2.2.2 h).2.2.1.getD r z0)) else zat (s.2.2.2 h).2.2.1 r what
def sentr (s : sS) (h i what : Nat) : Int32 := zat (s.2.2.2 h).2.2.2 i what - (if what = 4 then s.1 1 else 0)
def snewest (l : List sR) (n k : Int32) : Nat → Int32
  | 0 => -1
  | i + 1 => if snam (l.getD i z0) n k then l.getD i z0 2 else snewest l n k i
def smost (l : List sR) (n k t : Int32) : Nat → Int32
  | 0 => -1
  | i + 1 => if snam (l.getD i z0) n k then (if smost l n k t i < l.getD i z0 4 - t then l.getD i z0 4 - t else smost l n k t i) else smost l n k t i
def sfinds (s : sS) (h : Nat) (n k : Int32) (what : Nat) : Int32 :=
  if what = 0 then snewest (s.2.2.2 h).2.2.2 n k (s.2.2.2 h).2.2.2.length else if what = 1 then nI (cntN (fun i => snam ((s.2.2.2 h).2.2.2.getD i z0) n k) (s.2.2.2 h).2.2.2.length)
  else smost (s.2.2.2 h).2.2.2 n k (s.1 1) (s.2.2.2 h).2.2.2.length
def sdn (s : sS) (h : Nat) (n k : Int32) (a : sR) : Bool := sdef s h a && snam a n k
def shas (s : sS) (n k : Int32) (h : Nat) : Bool := (s.2.2.2 h).2.2.1.any (sdn s h n k)
/-- the first host that has one, below m -/
def sfirst (s : sS) (n k : Int32) : Nat → Int32
  | 0 => -1
  | h + 1 => if sfirst s n k h = -1 ∧ shas s n k h = true then nI h else sfirst s n k h
/-- the data of the first such record among the first ones -/
def sfdata (s : sS) (h : Nat) (n k : Int32) : Nat → Int32
  | 0 => -1
  | r + 1 => if anyN (fun i => sdn s h n k ((s.2.2.2 h).2.2.1.getD i z0)) r then sfdata s h n k r else if sdn s h n k ((s.2.2.2 h).2.2.1.getD r z0) then (s.2.2.2 h).2.2.1.getD r z0 2 else -1
def sdata (s : sS) (n k : Int32) : Nat → Int32
  | 0 => -1
  | h + 1 => if sfirst s n k h = -1 then (if shas s n k h then sfdata s h n k (s.2.2.2 h).2.2.1.length else -1) else sdata s n k h
def sowner (s : sS) (n k : Int32) (what : Nat) : Int32 := if what = 0 then sfirst s n k s.2.2.1 else if what = 1 then sdata s n k s.2.2.1 else nI (cntN (shas s n k) s.2.2.1)
def sownd (s : sS) (e : sR) : Bool := anyN (fun h => (s.2.2.2 h).2.2.1.any (fun a => sown a && ssame a e)) s.2.2.1
def sstale (s : sS) (h : Nat) : Nat := cntN (fun i => !sownd s ((s.2.2.2 h).2.2.2.getD i z0)) (s.2.2.2 h).2.2.2.length
def sallh (s : sS) (what h : Nat) : Int32 :=
  if what = 0 then nI (s.2.2.2 h).2.2.2.length else if what = 1 then nI (sstale s h) else if what = 2 then nI (s.2.2.2 h).2.2.1.length - nI (sownN (s.2.2.2 h).2.2.1) else (s.2.2.2 h).1
def sall (s : sS) (what : Nat) : Nat → Int32
  | 0 => 0
  | h + 1 => sall s what h + sallh s what h
/-! whether it may be done -/
def scanHost (s : sS) : Int32 := if s.2.2.1 = 6 then -4 else 0
def sisR (s : sS) (h r : Int32) : Bool := sisH s h && (decide (0 ≤ r) && decide (r < nI (s.2.2.2 h.toNatClampNeg).2.2.1.length))
def scanLeave (s : sS) (h r : Int32) : Int32 := if !sisR s h r then -2 else if sawk (s.2.2.2 h.toNatClampNeg) then 0 else -3
def scanAsk (s : sS) (h n k : Int32) : Int32 := if !sisH s h || !sisN n k then -2 else if sawk (s.2.2.2 h.toNatClampNeg) then 0 else -3
def scanSleep (s : sS) (h p : Int32) : Int32 :=
  if !sisH s h || (p != -1 && !sisH s p) || p == h then -2 else if !sawk (s.2.2.2 h.toNatClampNeg) || (p != -1 && !sawk (s.2.2.2 p.toNatClampNeg)) then -3 else 0
def scanWake (s : sS) (h : Int32) : Int32 := if !sisH s h then -2 else if sawk (s.2.2.2 h.toNatClampNeg) then -3 else 0
/-! asking, sleeping, waking -/
def ssleep (s : sS) (h : Nat) (p : Int32) : sS := shst s h (0, p, (s.2.2.2 h).2.2.1, (s.2.2.2 h).2.2.2)
def swake0 (s : sS) (h : Nat) : sS := shst s h (1, -1, (s.2.2.2 h).2.2.1, (s.2.2.2 h).2.2.2)
def swakeR (h r : Nat) (s : sS) : sS :=
  let a := (s.2.2.2 h).2.2.1.getD r z0
  if sown a then (if a 6 == 1 && sopp s h a then ssetr s h r (fu (fu a 4 0) 5 0) else ssays s h a) else s
def swake (s : sS) (h : Nat) : sS := fR (swakeR h) (s.2.2.2 h).2.2.1.length (swake0 s h)
/-- the data that are known at a question -/
def sknown (l : List sR) (n k t : Int32) (c : Nat) (x : Int32) : Bool := anyN (fun i => snam (l.getD i z0) n k && decide (l.getD i z0 3 ≤ 2 * (l.getD i z0 4 - t)) && (l.getD i z0 2 == x)) c
/-- who speaks for a host -/
def sby (s : sS) (o : Nat) : Int32 := if sawk (s.2.2.2 o) then nI o else (s.2.2.2 o).2.1
def sans (s : sS) (h o : Nat) : Bool := o != h && (sby s o != -1 && sawk (s.2.2.2 (sby s o).toNatClampNeg))
def saskR (n k : Int32) (b o r : Nat) (q : (Int32 → Bool) × sS) : (Int32 → Bool) × sS :=
  let a := (q.2.2.2.2 o).2.2.1.getD r z0
  if sown a && snam a n k then (if q.1 (a 2) then (q.1, scnt q.2 5 (q.2.1 5 + 1)) else ((fun x => q.1 x || x == a 2), ssays q.2 b a)) else q
def saskH (n k : Int32) (h o : Nat) (q : (Int32 → Bool) × sS) : (Int32 → Bool) × sS :=
  if sans q.2 h o then fR (saskR n k (sby q.2 o).toNatClampNeg o) (q.2.2.2.2 o).2.2.1.length q else q
def sask (s : sS) (h : Nat) (n k : Int32) : sS := (fR (saskH n k h) s.2.2.1 (sknown (s.2.2.2 h).2.2.2 n k (s.1 1) (s.2.2.2 h).2.2.2.length, s)).2
end
section
/-! ===== the reference: its cells, its row 'all' as a link, and the methods that only look ===== -/
/-- the reference's object stands at 667, its arrays behind it -/
def MI (m : zM) : Prop := zn m = 676 ∧ zR m 667 0 = 668 ∧ zR m 667 2 = 669 ∧ zR m 667 3 = 670 ∧ zR m 667 4 = 671 ∧ zR m 667 7 = 672 ∧ zR m 667 8 = 673 ∧ zR m 667 9 = 674 ∧ zR m 667 12 = 675
theorem MI.of {m m' : zM} (h : MI m) (h1 : m'.2.1 = m.2.1) (h2 : m'.2.2.2.2 = m.2.2.2.2) : MI m' := by
  unfold MI zn zR at h ⊢
  rw [h1, h2]
  exact h
section
variable {m m' : zM}
theorem MI.mv (h : MI m) (e : m'.2 = m.2) : MI m' := h.of (by rw [e]) (by rw [e])
theorem MI.n6 (h : MI m) (e : m'.2 = m.2) : zn m' = 676 := (h.mv e).1
theorem MI.ob (h : MI m) (e : m'.2 = m.2) : zOb m' 667 9 := ⟨rfl, by decide, by rw [h.n6 e]; decide⟩
theorem MI.r0 (h : MI m) (e : m'.2 = m.2) : zR m' 667 0 = 668 := (h.mv e).2.1
theorem MI.r2 (h : MI m) (e : m'.2 = m.2) : zR m' 667 2 = 669 := (h.mv e).2.2.1
theorem MI.r3 (h : MI m) (e : m'.2 = m.2) : zR m' 667 3 = 670 := (h.mv e).2.2.2.1
theorem MI.r4 (h : MI m) (e : m'.2 = m.2) : zR m' 667 4 = 671 := (h.mv e).2.2.2.2.1
theorem MI.r7 (h : MI m) (e : m'.2 = m.2) : zR m' 667 7 = 672 := (h.mv e).2.2.2.2.2.1
theorem MI.r8 (h : MI m) (e : m'.2 = m.2) : zR m' 667 8 = 673 := (h.mv e).2.2.2.2.2.2.1
theorem MI.r9 (h : MI m) (e : m'.2 = m.2) : zR m' 667 9 = 674 := (h.mv e).2.2.2.2.2.2.2.1
theorem MI.r12 (h : MI m) (e : m'.2 = m.2) : zR m' 667 12 = 675 := (h.mv e).2.2.2.2.2.2.2.2
theorem MI.a668 (h : MI m) (e : m'.2 = m.2) : zAr m' 668 12 424 := ⟨rfl, by decide, by rw [h.n6 e]; decide⟩
theorem MI.a669 (h : MI m) (e : m'.2 = m.2) : zAr m' 669 12 2120 := ⟨rfl, by decide, by rw [h.n6 e]; decide⟩
theorem MI.a670 (h : MI m) (e : m'.2 = m.2) : zAr m' 670 11 5 := ⟨rfl, by decide, by rw [h.n6 e]; decide⟩
theorem MI.a671 (h : MI m) (e : m'.2 = m.2) : zAr m' 671 12 424 := ⟨rfl, by decide, by rw [h.n6 e]; decide⟩
theorem MI.a672 (h : MI m) (e : m'.2 = m.2) : zAr m' 672 12 3 := ⟨rfl, by decide, by rw [h.n6 e]; decide⟩
theorem MI.a673 (h : MI m) (e : m'.2 = m.2) : zAr m' 673 14 256 := ⟨rfl, by decide, by rw [h.n6 e]; decide⟩
theorem MI.a674 (h : MI m) (e : m'.2 = m.2) : zAr m' 674 12 120 := ⟨rfl, by decide, by rw [h.n6 e]; decide⟩
theorem MI.a675 (h : MI m) (e : m'.2 = m.2) : zAr m' 675 12 5 := ⟨rfl, by decide, by rw [h.n6 e]; decide⟩
end
/-- the memory with a row of ints set -/
def zrow (m : zM) (a : Nat) (g : Nat → Int32) : zM := (fun x j => if x = a then g j else m.1 x j, m.2)
theorem zrow_s (m : zM) (a : Nat) (g : Nat → Int32) : zI (zrow m a g) a = g := by funext j; simp [zI, zrow]
theorem zrow_n (m : zM) {a b : Nat} (g : Nat → Int32) (h : b ≠ a) : zI (zrow m a g) b = zI m b := by funext j; simp [zI, zrow, h]
theorem zrow_id (m : zM) (a : Nat) : zrow m a (zI m a) = m := by
  unfold zrow
  refine Prod.ext ?_ rfl
  funext x j
  simp only [zI]
  by_cases h : x = a
  · rw [if_pos h, h]
  · rw [if_neg h]
theorem zrow_zrow (m : zM) (a : Nat) (g g' : Nat → Int32) : zrow (zrow m a g) a g' = zrow m a g' := by
  unfold zrow
  refine Prod.ext ?_ rfl
  funext x j
  by_cases h : x = a <;> simp [h]
theorem zrow_comm (m : zM) {a b : Nat} (g g' : Nat → Int32) (h : a ≠ b) : zrow (zrow m a g) b g' = zrow (zrow m b g') a g := by
  unfold zrow
  refine Prod.ext ?_ rfl
  funext x j
  by_cases h1 : x = a
  · have : ¬ x = b := fun z => h (h1.symm.trans z)
    simp [h1, h]
  · by_cases h2 : x = b <;> simp [h1, h2]
    intro h3; exact absurd h3.symm h
theorem zsI_row (m : zM) (a j : Nat) (g : Nat → Int32) (v : Int32) : zsI (zrow m a g) a j v = zrow m a (fu g j v) := by
  unfold zrow zsI
  refine Prod.ext ?_ rfl
  funext x k
  by_cases h : x = a <;> simp [zu, fu, h]
theorem zsI_rw (m : zM) (a j : Nat) (v : Int32) : zsI m a j v = zrow m a (fu (zI m a) j v) := by
  have := zsI_row m a j (zI m a) v
  rwa [zrow_id] at this
section
variable {d : Nat} {M : zMeth} {mc ms : Nat} {Q : Value → zM → Prop} {pc : Nat} {ls st : List Value} {uc us : Nat} {m : zM} {f : Nat → Int32}
theorem zr_ialoadA {j : Nat} (hd : decode M.2.2.1 pc = .ok (.iaload, 1)) (ha : zAr (zrow m 668 f) 668 12 424) (hj : j < 424) (kk : zwp d M mc ms Q (pc + 1) ls (.int (f j) :: st) uc us (zrow m 668 f)) : zwp d M mc ms Q pc ls (.int (nI j) :: .ref 668 :: st) uc us (zrow m 668 f) :=
  zr_ialoadN hd ha hj (by decide) (by rw [zrow_s]; exact kk)
theorem zr_iastoreA {j : Nat} {v : Int32} (hd : decode M.2.2.1 pc = .ok (.iastore, 1)) (ha : zAr (zrow m 668 f) 668 12 424) (hj : j < 424) (kk : zwp d M mc ms Q (pc + 1) ls st uc us (zrow m 668 (fu f j v))) : zwp d M mc ms Q pc ls (.int v :: .int (nI j) :: .ref 668 :: st) uc us (zrow m 668 f) :=
  zr_iastoreN hd ha hj (by decide) (by rw [zsI_row]; exact kk)
end
/-! the row 'all' as a link -/
def RAh (f : Nat → Int32) (h : Nat) (x : sH) : Prop :=
  f (10 + 4 * h) = x.1 ∧ f (10 + 4 * h + 1) = x.2.1 ∧ f (10 + 4 * h + 2) = nI x.2.2.1.length ∧ f (10 + 4 * h + 3) = nI x.2.2.2.length ∧ x.2.2.1.length ≤ 5 ∧ x.2.2.2.length ≤ 6 ∧
  (∀ r, r < x.2.2.1.length → ∀ k, k < 7 → f (34 + 7 * (5 * h + r) + k) = zat x.2.2.1 r k) ∧ ∀ i, i < x.2.2.2.length → ∀ k, k < 5 → f (244 + 5 * (6 * h + i) + k) = zat x.2.2.2 i k
def RA (f : Nat → Int32) (s : sS) : Prop := f 0 = nI s.2.2.1 ∧ s.2.2.1 ≤ 6 ∧ (∀ k, 1 ≤ k → k ≤ 6 → f k = s.1 k) ∧ ∀ h, h < s.2.2.1 → RAh f h (s.2.2.2 h)
section
variable {f g : Nat → Int32} {s : sS} {h : Nat}
theorem RA.h6 (hA : RA f s) (hh : h < s.2.2.1) : h < 6 := Nat.lt_of_lt_of_le hh hA.2.1
theorem RA.awk (hA : RA f s) (hh : h < s.2.2.1) : f (10 + 4 * h) = (s.2.2.2 h).1 := (hA.2.2.2 h hh).1
theorem RA.prx (hA : RA f s) (hh : h < s.2.2.1) : f (10 + 4 * h + 1) = (s.2.2.2 h).2.1 := (hA.2.2.2 h hh).2.1
theorem RA.cnt (hA : RA f s) (hh : h < s.2.2.1) : f (10 + 4 * h + 2) = nI (s.2.2.2 h).2.2.1.length := (hA.2.2.2 h hh).2.2.1
theorem RA.siz (hA : RA f s) (hh : h < s.2.2.1) : f (10 + 4 * h + 3) = nI (s.2.2.2 h).2.2.2.length := (hA.2.2.2 h hh).2.2.2.1
theorem RA.c5 (hA : RA f s) (hh : h < s.2.2.1) : (s.2.2.2 h).2.2.1.length ≤ 5 := (hA.2.2.2 h hh).2.2.2.2.1
theorem RA.s6 (hA : RA f s) (hh : h < s.2.2.1) : (s.2.2.2 h).2.2.2.length ≤ 6 := (hA.2.2.2 h hh).2.2.2.2.2.1
theorem RA.rec (hA : RA f s) (hh : h < s.2.2.1) {r : Nat} (hr : r < (s.2.2.2 h).2.2.1.length) : ∀ k, k < 7 → f (34 + 7 * (5 * h + r) + k) = (s.2.2.2 h).2.2.1.getD r z0 k := (hA.2.2.2 h hh).2.2.2.2.2.2.1 r hr
theorem RA.ent (hA : RA f s) (hh : h < s.2.2.1) {i : Nat} (hi : i < (s.2.2.2 h).2.2.2.length) : ∀ k, k < 5 → f (244 + 5 * (6 * h + i) + k) = (s.2.2.2 h).2.2.2.getD i z0 k := (hA.2.2.2 h hh).2.2.2.2.2.2.2 i hi
/-- the places of a host -/
def hreg (h j : Nat) : Prop := (10 + 4 * h ≤ j ∧ j < 14 + 4 * h) ∨ (34 + 35 * h ≤ j ∧ j < 69 + 35 * h) ∨ (244 + 30 * h ≤ j ∧ j < 274 + 30 * h)
theorem RAh.off {x : sH} (hx : RAh f h x) (hg : ∀ j, hreg h j → g j = f j) : RAh g h x := by
  obtain ⟨h1, h2, h3, h4, h5, h6, h7, h8⟩ := hx
  refine ⟨by rw [hg _ (by unfold hreg; omega)]; exact h1, by rw [hg _ (by unfold hreg; omega)]; exact h2, by rw [hg _ (by unfold hreg; omega)]; exact h3, by rw [hg _ (by unfold hreg; omega)]; exact h4, h5, h6, fun r hr k hk => ?_, fun i hi k hk => ?_⟩
  · rw [hg _ (by unfold hreg; omega)]; exact h7 r hr k hk
  · rw [hg _ (by unfold hreg; omega)]; exact h8 i hi k hk
theorem hreg_ne {h h' j : Nat} (h1 : h < 6) (h2 : h' < 6) (hn : h' ≠ h) (hj : hreg h' j) : ¬ hreg h j := by unfold hreg at *; omega
theorem RA.host {x : sH} (hA : RA f s) (hh : h < s.2.2.1) (hg : ∀ j, ¬ hreg h j → g j = f j) (hx : RAh g h x) : RA g (shst s h x) := by
  obtain ⟨h1, h2, h3, h4⟩ := hA
  refine ⟨by rw [hg 0 (by unfold hreg; omega)]; exact h1, h2, fun k hk1 hk2 => by rw [hg k (by unfold hreg; omega)]; exact h3 k hk1 hk2, fun h' hh' => ?_⟩
  have hh'' : h' < s.2.2.1 := hh'
  show RAh g h' (fu s.2.2.2 h x h')
  by_cases e : h' = h
  · subst e; rw [fu_s]; exact hx
  · rw [fu_n _ _ e]
    exact (h4 h' hh'').off (fun j hj => hg j (hreg_ne (by omega) (by omega) e hj))
theorem RA.sc (hA : RA f s) {k : Nat} (h1 : 1 ≤ k) (h6 : k ≤ 6) (v : Int32) : RA (fu f k v) (scnt s k v) := by
  obtain ⟨a1, a2, a3, a4⟩ := hA
  refine ⟨by rw [fu_n _ _ (by omega)]; exact a1, a2, fun j hj1 hj2 => ?_, fun h hh => ?_⟩
  · show fu f k v j = fu s.1 k v j
    unfold fu
    split
    · rfl
    · exact a3 j hj1 hj2
  · refine (a4 h hh).off (fun j hj => fu_n _ _ ?_)
    unfold hreg at hj
    omega
end
/-! the methods that only look -/
section
variable {d : Nat} {Q : Value → zM → Prop} {m : zM} {f : Nat → Int32} {s : sS}
theorem lg_lt {x y : Int64} : lg_cmp x y < 0 ↔ x < y := by
  have := lg_cmp_ge x y
  rw [← Int32.not_le, this, Int64.not_le]
theorem lg_gt {x y : Int64} : 0 < lg_cmp x y ↔ y < x := by
  unfold lg_cmp
  by_cases h1 : x > y
  · simp [h1]
  · by_cases h2 : x = y <;> simp [h1, h2]
end
end
