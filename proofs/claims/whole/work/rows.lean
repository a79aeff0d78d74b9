section
-- ===== PART A: goes FIRST, ahead of the names: the tables' words, and 'selects' of the private methods out of them =====
/-- a private method of a class that the tables say can be made, by its rows of tables_1 -/
def lw_okq (q : MethodName × Nat) : Prop := (q.1.cls ≠ "java/lang/invoke/MethodHandle" ∧ q.1.cls ≠ "java/lang/invoke/VarHandle") ∧ Cond.instantiable q.1.cls q.2 ∈ tables_1 ∧ Cond.privateMethod q.1 ∈ tables_1 ∧ Cond.instanceMethod q.1 ∈ tables_1
theorem lw_p0 : lw_okq (⟨"NonceBox", "rowOf", "(I)[B"⟩, 13) := ⟨⟨by decide +kernel, by decide +kernel⟩, List.mem_of_getElem? (i := 24) (by decide +kernel), List.mem_of_getElem? (i := 200) (by decide +kernel), List.mem_of_getElem? (i := 201) (by decide +kernel)⟩
theorem lw_p1 : lw_okq (⟨"NonceBox$Mixer", "layOut", "([B[B)V"⟩, 5) := ⟨⟨by decide +kernel, by decide +kernel⟩, List.mem_of_getElem? (i := 32) (by decide +kernel), List.mem_of_getElem? (i := 234) (by decide +kernel), List.mem_of_getElem? (i := 235) (by decide +kernel)⟩
theorem lw_p2 : lw_okq (⟨"NonceBox$Mixer", "turnRounds", "()V"⟩, 5) := ⟨⟨by decide +kernel, by decide +kernel⟩, List.mem_of_getElem? (i := 32) (by decide +kernel), List.mem_of_getElem? (i := 246) (by decide +kernel), List.mem_of_getElem? (i := 247) (by decide +kernel)⟩
theorem lw_p3 : lw_okq (⟨"NonceBox$Mixer", "quarter", "(IIII)V"⟩, 5) := ⟨⟨by decide +kernel, by decide +kernel⟩, List.mem_of_getElem? (i := 32) (by decide +kernel), List.mem_of_getElem? (i := 250) (by decide +kernel), List.mem_of_getElem? (i := 251) (by decide +kernel)⟩
theorem lw_p4 : lw_okq (⟨"NonceBox", "showWork", "(I)V"⟩, 13) := ⟨⟨by decide +kernel, by decide +kernel⟩, List.mem_of_getElem? (i := 24) (by decide +kernel), List.mem_of_getElem? (i := 260) (by decide +kernel), List.mem_of_getElem? (i := 261) (by decide +kernel)⟩
theorem lw_p5 : lw_okq (⟨"java/lang/Throwable", "fillInStackTrace", "(I)Ljava/lang/Throwable;"⟩, 6) := ⟨⟨by decide +kernel, by decide +kernel⟩, List.mem_of_getElem? (i := 307) (by decide +kernel), List.mem_of_getElem? (i := 305) (by decide +kernel), List.mem_of_getElem? (i := 306) (by decide +kernel)⟩
theorem lw_p6 : lw_okq (⟨"NonceBox$Mixer", "coreInto", "(I)V"⟩, 5) := ⟨⟨by decide +kernel, by decide +kernel⟩, List.mem_of_getElem? (i := 32) (by decide +kernel), List.mem_of_getElem? (i := 582) (by decide +kernel), List.mem_of_getElem? (i := 583) (by decide +kernel)⟩
theorem lw_p7 : lw_okq (⟨"NonceBox$Tagger", "readFactor", "([B)V"⟩, 4) := ⟨⟨by decide +kernel, by decide +kernel⟩, List.mem_of_getElem? (i := 56) (by decide +kernel), List.mem_of_getElem? (i := 594) (by decide +kernel), List.mem_of_getElem? (i := 595) (by decide +kernel)⟩
theorem lw_p8 : lw_okq (⟨"NonceBox$Tagger", "takePiece", "([BII)V"⟩, 4) := ⟨⟨by decide +kernel, by decide +kernel⟩, List.mem_of_getElem? (i := 56) (by decide +kernel), List.mem_of_getElem? (i := 619) (by decide +kernel), List.mem_of_getElem? (i := 620) (by decide +kernel)⟩
theorem lw_p9 : lw_okq (⟨"NonceBox$Field", "foldTop", "([J)V"⟩, 5) := ⟨⟨by decide +kernel, by decide +kernel⟩, List.mem_of_getElem? (i := 62) (by decide +kernel), List.mem_of_getElem? (i := 628) (by decide +kernel), List.mem_of_getElem? (i := 629) (by decide +kernel)⟩
theorem lw_p10 : lw_okq (⟨"NonceBox$Curve", "begin", "([B)V"⟩, 14) := ⟨⟨by decide +kernel, by decide +kernel⟩, List.mem_of_getElem? (i := 103) (by decide +kernel), List.mem_of_getElem? (i := 648) (by decide +kernel), List.mem_of_getElem? (i := 649) (by decide +kernel)⟩
theorem lw_p11 : lw_okq (⟨"NonceBox$Curve", "readKey", "([B)V"⟩, 14) := ⟨⟨by decide +kernel, by decide +kernel⟩, List.mem_of_getElem? (i := 103) (by decide +kernel), List.mem_of_getElem? (i := 660) (by decide +kernel), List.mem_of_getElem? (i := 661) (by decide +kernel)⟩
theorem lw_p12 : lw_okq (⟨"NonceBox$Curve", "step", "([J[J[J[J)V"⟩, 14) := ⟨⟨by decide +kernel, by decide +kernel⟩, List.mem_of_getElem? (i := 103) (by decide +kernel), List.mem_of_getElem? (i := 664) (by decide +kernel), List.mem_of_getElem? (i := 665) (by decide +kernel)⟩
theorem lw_p13 : lw_okq (⟨"NonceBox$Curve", "invert", "([J[J)V"⟩, 14) := ⟨⟨by decide +kernel, by decide +kernel⟩, List.mem_of_getElem? (i := 103) (by decide +kernel), List.mem_of_getElem? (i := 682) (by decide +kernel), List.mem_of_getElem? (i := 683) (by decide +kernel)⟩
theorem lw_p14 : lw_okq (⟨"NonceBox", "findAgreedKey", "()V"⟩, 13) := ⟨⟨by decide +kernel, by decide +kernel⟩, List.mem_of_getElem? (i := 24) (by decide +kernel), List.mem_of_getElem? (i := 692) (by decide +kernel), List.mem_of_getElem? (i := 693) (by decide +kernel)⟩
theorem lw_p15 : lw_okq (⟨"NonceBox", "sealBy", "([B)V"⟩, 13) := ⟨⟨by decide +kernel, by decide +kernel⟩, List.mem_of_getElem? (i := 24) (by decide +kernel), List.mem_of_getElem? (i := 707) (by decide +kernel), List.mem_of_getElem? (i := 708) (by decide +kernel)⟩
def lw_privs_1 : List (MethodName × Nat) := [(⟨"NonceBox", "rowOf", "(I)[B"⟩, 13), (⟨"NonceBox$Mixer", "layOut", "([B[B)V"⟩, 5), (⟨"NonceBox$Mixer", "turnRounds", "()V"⟩, 5), (⟨"NonceBox$Mixer", "quarter", "(IIII)V"⟩, 5), (⟨"NonceBox", "showWork", "(I)V"⟩, 13), (⟨"java/lang/Throwable", "fillInStackTrace", "(I)Ljava/lang/Throwable;"⟩, 6), (⟨"NonceBox$Mixer", "coreInto", "(I)V"⟩, 5), (⟨"NonceBox$Tagger", "readFactor", "([B)V"⟩, 4), (⟨"NonceBox$Tagger", "takePiece", "([BII)V"⟩, 4), (⟨"NonceBox$Field", "foldTop", "([J)V"⟩, 5), (⟨"NonceBox$Curve", "begin", "([B)V"⟩, 14), (⟨"NonceBox$Curve", "readKey", "([B)V"⟩, 14), (⟨"NonceBox$Curve", "step", "([J[J[J[J)V"⟩, 14), (⟨"NonceBox$Curve", "invert", "([J[J)V"⟩, 14), (⟨"NonceBox", "findAgreedKey", "()V"⟩, 13), (⟨"NonceBox", "sealBy", "([B)V"⟩, 13)]
theorem lw_r1 : ∀ q ∈ lw_privs_1, lw_okq q := List.forall_mem_cons.mpr ⟨lw_p0, List.forall_mem_cons.mpr ⟨lw_p1, List.forall_mem_cons.mpr ⟨lw_p2, List.forall_mem_cons.mpr ⟨lw_p3, List.forall_mem_cons.mpr ⟨lw_p4, List.forall_mem_cons.mpr ⟨lw_p5, List.forall_mem_cons.mpr ⟨lw_p6, List.forall_mem_cons.mpr ⟨lw_p7, List.forall_mem_cons.mpr ⟨lw_p8, List.forall_mem_cons.mpr ⟨lw_p9, List.forall_mem_cons.mpr ⟨lw_p10, List.forall_mem_cons.mpr ⟨lw_p11, List.forall_mem_cons.mpr ⟨lw_p12, List.forall_mem_cons.mpr ⟨lw_p13, List.forall_mem_cons.mpr ⟨lw_p14, List.forall_mem_cons.mpr ⟨lw_p15, fun _ h => absurd h List.not_mem_nil⟩⟩⟩⟩⟩⟩⟩⟩⟩⟩⟩⟩⟩⟩⟩⟩
theorem lw_p16 : lw_okq (⟨"NonceBox", "openBy", "([B)Z"⟩, 13) := ⟨⟨by decide +kernel, by decide +kernel⟩, List.mem_of_getElem? (i := 24) (by decide +kernel), List.mem_of_getElem? (i := 720) (by decide +kernel), List.mem_of_getElem? (i := 721) (by decide +kernel)⟩
theorem lw_p17 : lw_okq (⟨"NonceBox", "textBeginsAsWork", "()Z"⟩, 13) := ⟨⟨by decide +kernel, by decide +kernel⟩, List.mem_of_getElem? (i := 24) (by decide +kernel), List.mem_of_getElem? (i := 724) (by decide +kernel), List.mem_of_getElem? (i := 725) (by decide +kernel)⟩
theorem lw_p18 : lw_okq (⟨"NonceBoxModel", "takeKey", "()V"⟩, 16) := ⟨⟨by decide +kernel, by decide +kernel⟩, List.mem_of_getElem? (i := 758) (by decide +kernel), List.mem_of_getElem? (i := 851) (by decide +kernel), List.mem_of_getElem? (i := 852) (by decide +kernel)⟩
theorem lw_p19 : lw_okq (⟨"NonceBoxModel", "mixKey", "()V"⟩, 16) := ⟨⟨by decide +kernel, by decide +kernel⟩, List.mem_of_getElem? (i := 758) (by decide +kernel), List.mem_of_getElem? (i := 855) (by decide +kernel), List.mem_of_getElem? (i := 856) (by decide +kernel)⟩
theorem lw_p20 : lw_okq (⟨"NonceBoxModel", "stir", "()V"⟩, 16) := ⟨⟨by decide +kernel, by decide +kernel⟩, List.mem_of_getElem? (i := 758) (by decide +kernel), List.mem_of_getElem? (i := 859) (by decide +kernel), List.mem_of_getElem? (i := 860) (by decide +kernel)⟩
theorem lw_p21 : lw_okq (⟨"NonceBoxModel", "quarter", "(IIII)V"⟩, 16) := ⟨⟨by decide +kernel, by decide +kernel⟩, List.mem_of_getElem? (i := 758) (by decide +kernel), List.mem_of_getElem? (i := 870) (by decide +kernel), List.mem_of_getElem? (i := 871) (by decide +kernel)⟩
theorem lw_p22 : lw_okq (⟨"NonceBoxModel", "outFrom", "([II)V"⟩, 16) := ⟨⟨by decide +kernel, by decide +kernel⟩, List.mem_of_getElem? (i := 758) (by decide +kernel), List.mem_of_getElem? (i := 880) (by decide +kernel), List.mem_of_getElem? (i := 881) (by decide +kernel)⟩
theorem lw_p23 : lw_okq (⟨"NonceBoxModel", "beginOut", "(I)V"⟩, 16) := ⟨⟨by decide +kernel, by decide +kernel⟩, List.mem_of_getElem? (i := 758) (by decide +kernel), List.mem_of_getElem? (i := 884) (by decide +kernel), List.mem_of_getElem? (i := 885) (by decide +kernel)⟩
theorem lw_p24 : lw_okq (⟨"NonceBoxModel", "flow", "()V"⟩, 16) := ⟨⟨by decide +kernel, by decide +kernel⟩, List.mem_of_getElem? (i := 758) (by decide +kernel), List.mem_of_getElem? (i := 892) (by decide +kernel), List.mem_of_getElem? (i := 893) (by decide +kernel)⟩
theorem lw_p25 : lw_okq (⟨"NonceBoxModel", "makeTag", "(I)V"⟩, 16) := ⟨⟨by decide +kernel, by decide +kernel⟩, List.mem_of_getElem? (i := 758) (by decide +kernel), List.mem_of_getElem? (i := 900) (by decide +kernel), List.mem_of_getElem? (i := 901) (by decide +kernel)⟩
theorem lw_p26 : lw_okq (⟨"NonceBoxModel", "timesR", "()V"⟩, 16) := ⟨⟨by decide +kernel, by decide +kernel⟩, List.mem_of_getElem? (i := 758) (by decide +kernel), List.mem_of_getElem? (i := 910) (by decide +kernel), List.mem_of_getElem? (i := 911) (by decide +kernel)⟩
theorem lw_p27 : lw_okq (⟨"NonceBoxModel", "carryTag", "()V"⟩, 16) := ⟨⟨by decide +kernel, by decide +kernel⟩, List.mem_of_getElem? (i := 758) (by decide +kernel), List.mem_of_getElem? (i := 915) (by decide +kernel), List.mem_of_getElem? (i := 916) (by decide +kernel)⟩
theorem lw_p28 : lw_okq (⟨"NonceBoxModel", "finishTag", "()V"⟩, 16) := ⟨⟨by decide +kernel, by decide +kernel⟩, List.mem_of_getElem? (i := 758) (by decide +kernel), List.mem_of_getElem? (i := 920) (by decide +kernel), List.mem_of_getElem? (i := 921) (by decide +kernel)⟩
theorem lw_p29 : lw_okq (⟨"NonceBoxModel", "multipleKey", "()V"⟩, 16) := ⟨⟨by decide +kernel, by decide +kernel⟩, List.mem_of_getElem? (i := 758) (by decide +kernel), List.mem_of_getElem? (i := 928) (by decide +kernel), List.mem_of_getElem? (i := 929) (by decide +kernel)⟩
theorem lw_p30 : lw_okq (⟨"NonceBoxModel", "set", "(IJ)V"⟩, 16) := ⟨⟨by decide +kernel, by decide +kernel⟩, List.mem_of_getElem? (i := 758) (by decide +kernel), List.mem_of_getElem? (i := 932) (by decide +kernel), List.mem_of_getElem? (i := 933) (by decide +kernel)⟩
theorem lw_p31 : lw_okq (⟨"NonceBoxModel", "copy", "(II)V"⟩, 16) := ⟨⟨by decide +kernel, by decide +kernel⟩, List.mem_of_getElem? (i := 758) (by decide +kernel), List.mem_of_getElem? (i := 937) (by decide +kernel), List.mem_of_getElem? (i := 938) (by decide +kernel)⟩
def lw_privs_2 : List (MethodName × Nat) := [(⟨"NonceBox", "openBy", "([B)Z"⟩, 13), (⟨"NonceBox", "textBeginsAsWork", "()Z"⟩, 13), (⟨"NonceBoxModel", "takeKey", "()V"⟩, 16), (⟨"NonceBoxModel", "mixKey", "()V"⟩, 16), (⟨"NonceBoxModel", "stir", "()V"⟩, 16), (⟨"NonceBoxModel", "quarter", "(IIII)V"⟩, 16), (⟨"NonceBoxModel", "outFrom", "([II)V"⟩, 16), (⟨"NonceBoxModel", "beginOut", "(I)V"⟩, 16), (⟨"NonceBoxModel", "flow", "()V"⟩, 16), (⟨"NonceBoxModel", "makeTag", "(I)V"⟩, 16), (⟨"NonceBoxModel", "timesR", "()V"⟩, 16), (⟨"NonceBoxModel", "carryTag", "()V"⟩, 16), (⟨"NonceBoxModel", "finishTag", "()V"⟩, 16), (⟨"NonceBoxModel", "multipleKey", "()V"⟩, 16), (⟨"NonceBoxModel", "set", "(IJ)V"⟩, 16), (⟨"NonceBoxModel", "copy", "(II)V"⟩, 16)]
theorem lw_r2 : ∀ q ∈ lw_privs_2, lw_okq q := List.forall_mem_cons.mpr ⟨lw_p16, List.forall_mem_cons.mpr ⟨lw_p17, List.forall_mem_cons.mpr ⟨lw_p18, List.forall_mem_cons.mpr ⟨lw_p19, List.forall_mem_cons.mpr ⟨lw_p20, List.forall_mem_cons.mpr ⟨lw_p21, List.forall_mem_cons.mpr ⟨lw_p22, List.forall_mem_cons.mpr ⟨lw_p23, List.forall_mem_cons.mpr ⟨lw_p24, List.forall_mem_cons.mpr ⟨lw_p25, List.forall_mem_cons.mpr ⟨lw_p26, List.forall_mem_cons.mpr ⟨lw_p27, List.forall_mem_cons.mpr ⟨lw_p28, List.forall_mem_cons.mpr ⟨lw_p29, List.forall_mem_cons.mpr ⟨lw_p30, List.forall_mem_cons.mpr ⟨lw_p31, fun _ h => absurd h List.not_mem_nil⟩⟩⟩⟩⟩⟩⟩⟩⟩⟩⟩⟩⟩⟩⟩⟩
theorem lw_p32 : lw_okq (⟨"NonceBoxModel", "swap", "(II)V"⟩, 16) := ⟨⟨by decide +kernel, by decide +kernel⟩, List.mem_of_getElem? (i := 758) (by decide +kernel), List.mem_of_getElem? (i := 941) (by decide +kernel), List.mem_of_getElem? (i := 942) (by decide +kernel)⟩
theorem lw_p33 : lw_okq (⟨"NonceBoxModel", "ladder", "()V"⟩, 16) := ⟨⟨by decide +kernel, by decide +kernel⟩, List.mem_of_getElem? (i := 758) (by decide +kernel), List.mem_of_getElem? (i := 945) (by decide +kernel), List.mem_of_getElem? (i := 946) (by decide +kernel)⟩
theorem lw_p34 : lw_okq (⟨"NonceBoxModel", "add", "(III)V"⟩, 16) := ⟨⟨by decide +kernel, by decide +kernel⟩, List.mem_of_getElem? (i := 758) (by decide +kernel), List.mem_of_getElem? (i := 949) (by decide +kernel), List.mem_of_getElem? (i := 950) (by decide +kernel)⟩
theorem lw_p35 : lw_okq (⟨"NonceBoxModel", "carry", "(I)V"⟩, 16) := ⟨⟨by decide +kernel, by decide +kernel⟩, List.mem_of_getElem? (i := 758) (by decide +kernel), List.mem_of_getElem? (i := 953) (by decide +kernel), List.mem_of_getElem? (i := 954) (by decide +kernel)⟩
theorem lw_p36 : lw_okq (⟨"NonceBoxModel", "subtract", "(III)V"⟩, 16) := ⟨⟨by decide +kernel, by decide +kernel⟩, List.mem_of_getElem? (i := 758) (by decide +kernel), List.mem_of_getElem? (i := 958) (by decide +kernel), List.mem_of_getElem? (i := 959) (by decide +kernel)⟩
theorem lw_p37 : lw_okq (⟨"NonceBoxModel", "times", "(III)V"⟩, 16) := ⟨⟨by decide +kernel, by decide +kernel⟩, List.mem_of_getElem? (i := 758) (by decide +kernel), List.mem_of_getElem? (i := 964) (by decide +kernel), List.mem_of_getElem? (i := 965) (by decide +kernel)⟩
theorem lw_p38 : lw_okq (⟨"NonceBoxModel", "finish", "(I)V"⟩, 16) := ⟨⟨by decide +kernel, by decide +kernel⟩, List.mem_of_getElem? (i := 758) (by decide +kernel), List.mem_of_getElem? (i := 968) (by decide +kernel), List.mem_of_getElem? (i := 969) (by decide +kernel)⟩
theorem lw_p39 : lw_okq (⟨"NonceBoxModel", "agreeKey", "()V"⟩, 16) := ⟨⟨by decide +kernel, by decide +kernel⟩, List.mem_of_getElem? (i := 758) (by decide +kernel), List.mem_of_getElem? (i := 978) (by decide +kernel), List.mem_of_getElem? (i := 979) (by decide +kernel)⟩
theorem lw_p40 : lw_okq (⟨"NonceBoxModel", "sealIt", "()I"⟩, 16) := ⟨⟨by decide +kernel, by decide +kernel⟩, List.mem_of_getElem? (i := 758) (by decide +kernel), List.mem_of_getElem? (i := 986) (by decide +kernel), List.mem_of_getElem? (i := 987) (by decide +kernel)⟩
theorem lw_p41 : lw_okq (⟨"NonceBoxModel", "tagKey", "()V"⟩, 16) := ⟨⟨by decide +kernel, by decide +kernel⟩, List.mem_of_getElem? (i := 758) (by decide +kernel), List.mem_of_getElem? (i := 990) (by decide +kernel), List.mem_of_getElem? (i := 991) (by decide +kernel)⟩
theorem lw_p42 : lw_okq (⟨"NonceBoxModel", "openIt", "()I"⟩, 16) := ⟨⟨by decide +kernel, by decide +kernel⟩, List.mem_of_getElem? (i := 758) (by decide +kernel), List.mem_of_getElem? (i := 998) (by decide +kernel), List.mem_of_getElem? (i := 999) (by decide +kernel)⟩
def lw_privs_3 : List (MethodName × Nat) := [(⟨"NonceBoxModel", "swap", "(II)V"⟩, 16), (⟨"NonceBoxModel", "ladder", "()V"⟩, 16), (⟨"NonceBoxModel", "add", "(III)V"⟩, 16), (⟨"NonceBoxModel", "carry", "(I)V"⟩, 16), (⟨"NonceBoxModel", "subtract", "(III)V"⟩, 16), (⟨"NonceBoxModel", "times", "(III)V"⟩, 16), (⟨"NonceBoxModel", "finish", "(I)V"⟩, 16), (⟨"NonceBoxModel", "agreeKey", "()V"⟩, 16), (⟨"NonceBoxModel", "sealIt", "()I"⟩, 16), (⟨"NonceBoxModel", "tagKey", "()V"⟩, 16), (⟨"NonceBoxModel", "openIt", "()I"⟩, 16)]
theorem lw_r3 : ∀ q ∈ lw_privs_3, lw_okq q := List.forall_mem_cons.mpr ⟨lw_p32, List.forall_mem_cons.mpr ⟨lw_p33, List.forall_mem_cons.mpr ⟨lw_p34, List.forall_mem_cons.mpr ⟨lw_p35, List.forall_mem_cons.mpr ⟨lw_p36, List.forall_mem_cons.mpr ⟨lw_p37, List.forall_mem_cons.mpr ⟨lw_p38, List.forall_mem_cons.mpr ⟨lw_p39, List.forall_mem_cons.mpr ⟨lw_p40, List.forall_mem_cons.mpr ⟨lw_p41, List.forall_mem_cons.mpr ⟨lw_p42, fun _ h => absurd h List.not_mem_nil⟩⟩⟩⟩⟩⟩⟩⟩⟩⟩⟩
def lw_privs : List (MethodName × Nat) := lw_privs_1 ++ (lw_privs_2 ++ (lw_privs_3))
def lw_tbl : List Cond := k2_sels lw_privs ++ tables_1
theorem lw_privs_ok : ∀ q ∈ lw_privs, lw_okq q := by
  show ∀ q ∈ lw_privs_1 ++ (lw_privs_2 ++ (lw_privs_3)), lw_okq q
  exact List.forall_mem_append.mpr ⟨lw_r1, List.forall_mem_append.mpr ⟨lw_r2, lw_r3⟩⟩
end
section
/-! names: words that stay under a call, the classes' fields, the methods -/
def tb : List Cond := lw_tbl.filter goodWord
theorem tb_t {w : Cond} (h : w ∈ tables_1) (g : goodWord w = true) : w ∈ tb := List.mem_filter.mpr ⟨List.mem_append_right _ h, g⟩
theorem tb_p {w : Cond} (h : w ∈ k2_sels lw_privs) (g : goodWord w = true) : w ∈ tb := List.mem_filter.mpr ⟨List.mem_append_left _ h, g⟩
theorem tb_good {x : Cond} {ws : List Cond} (h : ∀ w ∈ ws, w ∈ tb) : GoodIn (x :: tb) ws := fun w hw => ⟨List.mem_cons_of_mem _ (h w hw), good_of_word (List.mem_filter.mp (h w hw)).2⟩
theorem tb_all {ws : List Cond} (h : ∀ w ∈ ws, w ∈ tb) : ws.all goodWord = true := List.all_eq_true.mpr fun w hw => (List.mem_filter.mp (h w hw)).2
def fT_Cv : u_T := fun k => match k with
  | 0 => ("NonceBox$Curve", "field", "LNonceBox$Field;", true)
  | 1 => ("NonceBox$Curve", "bytes", "[B", true)
  | 2 => ("NonceBox$Curve", "firstOver", "[J", true)
  | 3 => ("NonceBox$Curve", "firstUnder", "[J", true)
  | 4 => ("NonceBox$Curve", "secondOver", "[J", true)
  | 5 => ("NonceBox$Curve", "secondUnder", "[J", true)
  | 6 => ("NonceBox$Curve", "u", "[J", true)
  | 7 => ("NonceBox$Curve", "e", "[J", true)
  | 8 => ("NonceBox$Curve", "f", "[J", true)
  | 9 => ("NonceBox$Curve", "g", "[J", true)
  | 10 => ("NonceBox$Curve", "h", "[J", true)
  | 11 => ("NonceBox$Curve", "q", "[J", true)
  | 12 => ("NonceBox$Curve", "\u0072", "[J", true)
  | _ => ("NonceBox$Curve", "t", "[J", true)
def fY_Cv : Nat → FieldType := fun k => match k with
  | 0 => .object "NonceBox$Field"
  | 1 => .array .byte
  | 2 => .array .long
  | 3 => .array .long
  | 4 => .array .long
  | 5 => .array .long
  | 6 => .array .long
  | 7 => .array .long
  | 8 => .array .long
  | 9 => .array .long
  | 10 => .array .long
  | 11 => .array .long
  | 12 => .array .long
  | _ => .array .long
theorem fN_Cv : ∀ a, a < 14 → ∀ b, b < 14 → a ≠ b → (fT_Cv a).2.1 ≠ (fT_Cv b).2.1 := by decide +kernel
theorem fK_Cv : ∀ k, k < 14 → parseFieldDescriptor (fT_Cv k).2.2.1 = some (fY_Cv k) := by decide +kernel
theorem fW_Cv : ∀ w ∈ u_ws "NonceBox$Curve" fT_Cv 14, w ∈ tb := by
  intro w hw
  obtain ⟨k, hk, rfl⟩ := List.mem_map.mp hw
  have hk := List.mem_range.mp hk
  match k, hk with
  | 0, _ => exact tb_t (List.mem_append_left _ (List.mem_of_getElem? (i := 126) rfl)) rfl
  | 1, _ => exact tb_t (List.mem_append_left _ (List.mem_of_getElem? (i := 128) rfl)) rfl
  | 2, _ => exact tb_t (List.mem_append_left _ (List.mem_of_getElem? (i := 130) rfl)) rfl
  | 3, _ => exact tb_t (List.mem_append_left _ (List.mem_of_getElem? (i := 132) rfl)) rfl
  | 4, _ => exact tb_t (List.mem_append_left _ (List.mem_of_getElem? (i := 134) rfl)) rfl
  | 5, _ => exact tb_t (List.mem_append_left _ (List.mem_of_getElem? (i := 136) rfl)) rfl
  | 6, _ => exact tb_t (List.mem_append_left _ (List.mem_of_getElem? (i := 138) rfl)) rfl
  | 7, _ => exact tb_t (List.mem_append_left _ (List.mem_of_getElem? (i := 140) rfl)) rfl
  | 8, _ => exact tb_t (List.mem_append_left _ (List.mem_of_getElem? (i := 142) rfl)) rfl
  | 9, _ => exact tb_t (List.mem_append_left _ (List.mem_of_getElem? (i := 144) rfl)) rfl
  | 10, _ => exact tb_t (List.mem_append_left _ (List.mem_of_getElem? (i := 146) rfl)) rfl
  | 11, _ => exact tb_t (List.mem_append_left _ (List.mem_of_getElem? (i := 148) rfl)) rfl
  | 12, _ => exact tb_t (List.mem_append_left _ (List.mem_of_getElem? (i := 150) rfl)) rfl
  | 13, _ => exact tb_t (List.mem_append_left _ (List.mem_of_getElem? (i := 152) rfl)) rfl
def fT_Fd : u_T := fun k => match k with
  | 0 => ("NonceBox$Field", "limbs", "I", true)
  | 1 => ("NonceBox$Field", "topBits", "I", true)
  | 2 => ("NonceBox$Field", "low", "J", true)
  | 3 => ("NonceBox$Field", "fold", "J", true)
  | _ => ("NonceBox$Field", "wide", "[J", true)
def fY_Fd : Nat → FieldType := fun k => match k with
  | 0 => .int
  | 1 => .int
  | 2 => .long
  | 3 => .long
  | _ => .array .long
theorem fN_Fd : ∀ a, a < 5 → ∀ b, b < 5 → a ≠ b → (fT_Fd a).2.1 ≠ (fT_Fd b).2.1 := by decide +kernel
theorem fK_Fd : ∀ k, k < 5 → parseFieldDescriptor (fT_Fd k).2.2.1 = some (fY_Fd k) := by decide +kernel
theorem fW_Fd : ∀ w ∈ u_ws "NonceBox$Field" fT_Fd 5, w ∈ tb := by
  intro w hw
  obtain ⟨k, hk, rfl⟩ := List.mem_map.mp hw
  have hk := List.mem_range.mp hk
  match k, hk with
  | 0, _ => exact tb_t (List.mem_append_left _ (List.mem_of_getElem? (i := 73) rfl)) rfl
  | 1, _ => exact tb_t (List.mem_append_left _ (List.mem_of_getElem? (i := 75) rfl)) rfl
  | 2, _ => exact tb_t (List.mem_append_left _ (List.mem_of_getElem? (i := 77) rfl)) rfl
  | 3, _ => exact tb_t (List.mem_append_left _ (List.mem_of_getElem? (i := 79) rfl)) rfl
  | 4, _ => exact tb_t (List.mem_append_left _ (List.mem_of_getElem? (i := 81) rfl)) rfl
def fT_Mx : u_T := fun k => match k with
  | 0 => ("NonceBox$Mixer", "laid", "[I", true)
  | 1 => ("NonceBox$Mixer", "words", "[I", true)
  | 2 => ("NonceBox$Mixer", "streamKey", "[B", true)
  | 3 => ("NonceBox$Mixer", "place", "[B", true)
  | _ => ("NonceBox$Mixer", "stream", "[B", true)
def fY_Mx : Nat → FieldType := fun k => match k with
  | 0 => .array .int
  | 1 => .array .int
  | 2 => .array .byte
  | 3 => .array .byte
  | _ => .array .byte
theorem fN_Mx : ∀ a, a < 5 → ∀ b, b < 5 → a ≠ b → (fT_Mx a).2.1 ≠ (fT_Mx b).2.1 := by decide +kernel
theorem fK_Mx : ∀ k, k < 5 → parseFieldDescriptor (fT_Mx k).2.2.1 = some (fY_Mx k) := by decide +kernel
theorem fW_Mx : ∀ w ∈ u_ws "NonceBox$Mixer" fT_Mx 5, w ∈ tb := by
  intro w hw
  obtain ⟨k, hk, rfl⟩ := List.mem_map.mp hw
  have hk := List.mem_range.mp hk
  match k, hk with
  | 0, _ => exact tb_t (List.mem_append_left _ (List.mem_of_getElem? (i := 42) rfl)) rfl
  | 1, _ => exact tb_t (List.mem_append_left _ (List.mem_of_getElem? (i := 44) rfl)) rfl
  | 2, _ => exact tb_t (List.mem_append_left _ (List.mem_of_getElem? (i := 46) rfl)) rfl
  | 3, _ => exact tb_t (List.mem_append_left _ (List.mem_of_getElem? (i := 48) rfl)) rfl
  | 4, _ => exact tb_t (List.mem_append_left _ (List.mem_of_getElem? (i := 50) rfl)) rfl
def fT_Tg : u_T := fun k => match k with
  | 0 => ("NonceBox$Tagger", "field", "LNonceBox$Field;", true)
  | 1 => ("NonceBox$Tagger", "sum", "[J", true)
  | 2 => ("NonceBox$Tagger", "factor", "[J", true)
  | _ => ("NonceBox$Tagger", "factorBytes", "[B", true)
def fY_Tg : Nat → FieldType := fun k => match k with
  | 0 => .object "NonceBox$Field"
  | 1 => .array .long
  | 2 => .array .long
  | _ => .array .byte
theorem fN_Tg : ∀ a, a < 4 → ∀ b, b < 4 → a ≠ b → (fT_Tg a).2.1 ≠ (fT_Tg b).2.1 := by decide +kernel
theorem fK_Tg : ∀ k, k < 4 → parseFieldDescriptor (fT_Tg k).2.2.1 = some (fY_Tg k) := by decide +kernel
theorem fW_Tg : ∀ w ∈ u_ws "NonceBox$Tagger" fT_Tg 4, w ∈ tb := by
  intro w hw
  obtain ⟨k, hk, rfl⟩ := List.mem_map.mp hw
  have hk := List.mem_range.mp hk
  match k, hk with
  | 0, _ => exact tb_t (List.mem_append_left _ (List.mem_of_getElem? (i := 93) rfl)) rfl
  | 1, _ => exact tb_t (List.mem_append_left _ (List.mem_of_getElem? (i := 95) rfl)) rfl
  | 2, _ => exact tb_t (List.mem_append_left _ (List.mem_of_getElem? (i := 97) rfl)) rfl
  | 3, _ => exact tb_t (List.mem_append_left _ (List.mem_of_getElem? (i := 99) rfl)) rfl
def fT_NB : u_T := fun k => match k with
  | 0 => ("NonceBox", "key", "[B", true)
  | 1 => ("NonceBox", "nonce", "[B", true)
  | 2 => ("NonceBox", "point", "[B", true)
  | 3 => ("NonceBox", "text", "[B", true)
  | 4 => ("NonceBox", "out", "[B", true)
  | 5 => ("NonceBox", "textLength", "I", false)
  | 6 => ("NonceBox", "outLength", "I", false)
  | 7 => ("NonceBox", "mixer", "LNonceBox$Mixer;", true)
  | 8 => ("NonceBox", "tagger", "LNonceBox$Tagger;", true)
  | 9 => ("NonceBox", "curve", "LNonceBox$Curve;", true)
  | 10 => ("NonceBox", "agreedKey", "[B", true)
  | 11 => ("NonceBox", "zeros", "[B", true)
  | _ => ("NonceBox", "work", "[B", true)
def fY_NB : Nat → FieldType := fun k => match k with
  | 0 => .array .byte
  | 1 => .array .byte
  | 2 => .array .byte
  | 3 => .array .byte
  | 4 => .array .byte
  | 5 => .int
  | 6 => .int
  | 7 => .object "NonceBox$Mixer"
  | 8 => .object "NonceBox$Tagger"
  | 9 => .object "NonceBox$Curve"
  | 10 => .array .byte
  | 11 => .array .byte
  | _ => .array .byte
theorem fN_NB : ∀ a, a < 13 → ∀ b, b < 13 → a ≠ b → (fT_NB a).2.1 ≠ (fT_NB b).2.1 := by decide +kernel
theorem fK_NB : ∀ k, k < 13 → parseFieldDescriptor (fT_NB k).2.2.1 = some (fY_NB k) := by decide +kernel
theorem fW_NB : ∀ w ∈ u_ws "NonceBox" fT_NB 13, w ∈ tb := by
  intro w hw
  obtain ⟨k, hk, rfl⟩ := List.mem_map.mp hw
  have hk := List.mem_range.mp hk
  match k, hk with
  | 0, _ => exact tb_t (List.mem_append_left _ (List.mem_of_getElem? (i := 168) rfl)) rfl
  | 1, _ => exact tb_t (List.mem_append_left _ (List.mem_of_getElem? (i := 170) rfl)) rfl
  | 2, _ => exact tb_t (List.mem_append_left _ (List.mem_of_getElem? (i := 172) rfl)) rfl
  | 3, _ => exact tb_t (List.mem_append_left _ (List.mem_of_getElem? (i := 174) rfl)) rfl
  | 4, _ => exact tb_t (List.mem_append_left _ (List.mem_of_getElem? (i := 176) rfl)) rfl
  | 5, _ => exact tb_t (List.mem_append_left _ (List.mem_of_getElem? (i := 178) rfl)) rfl
  | 6, _ => exact tb_t (List.mem_append_left _ (List.mem_of_getElem? (i := 180) rfl)) rfl
  | 7, _ => exact tb_t (List.mem_append_left _ (List.mem_of_getElem? (i := 182) rfl)) rfl
  | 8, _ => exact tb_t (List.mem_append_left _ (List.mem_of_getElem? (i := 184) rfl)) rfl
  | 9, _ => exact tb_t (List.mem_append_left _ (List.mem_of_getElem? (i := 186) rfl)) rfl
  | 10, _ => exact tb_t (List.mem_append_left _ (List.mem_of_getElem? (i := 188) rfl)) rfl
  | 11, _ => exact tb_t (List.mem_append_left _ (List.mem_of_getElem? (i := 190) rfl)) rfl
  | 12, _ => exact tb_t (List.mem_append_left _ (List.mem_of_getElem? (i := 192) rfl)) rfl
def fT_Md : u_T := fun k => match k with
  | 0 => ("NonceBoxModel", "bytes", "[I", true)
  | 1 => ("NonceBoxModel", "textLength", "I", false)
  | 2 => ("NonceBoxModel", "outLength", "I", false)
  | 3 => ("NonceBoxModel", "code", "I", false)
  | 4 => ("NonceBoxModel", "key", "[I", true)
  | 5 => ("NonceBoxModel", "more", "[I", true)
  | 6 => ("NonceBoxModel", "laid", "[I", true)
  | 7 => ("NonceBoxModel", "w", "[I", true)
  | 8 => ("NonceBoxModel", "stream", "[I", true)
  | 9 => ("NonceBoxModel", "f", "[J", true)
  | 10 => ("NonceBoxModel", "wide", "[J", true)
  | 11 => ("NonceBoxModel", "a", "[J", true)
  | 12 => ("NonceBoxModel", "\u0072", "[J", true)
  | 13 => ("NonceBoxModel", "d", "[J", true)
  | 14 => ("NonceBoxModel", "tag", "[I", true)
  | _ => ("NonceBoxModel", "body", "[I", true)
def fY_Md : Nat → FieldType := fun k => match k with
  | 0 => .array .int
  | 1 => .int
  | 2 => .int
  | 3 => .int
  | 4 => .array .int
  | 5 => .array .int
  | 6 => .array .int
  | 7 => .array .int
  | 8 => .array .int
  | 9 => .array .long
  | 10 => .array .long
  | 11 => .array .long
  | 12 => .array .long
  | 13 => .array .long
  | 14 => .array .int
  | _ => .array .int
theorem fN_Md : ∀ a, a < 16 → ∀ b, b < 16 → a ≠ b → (fT_Md a).2.1 ≠ (fT_Md b).2.1 := by decide +kernel
theorem fK_Md : ∀ k, k < 16 → parseFieldDescriptor (fT_Md k).2.2.1 = some (fY_Md k) := by decide +kernel
theorem fW_Md : ∀ w ∈ u_ws "NonceBoxModel" fT_Md 16, w ∈ tb := by
  intro w hw
  obtain ⟨k, hk, rfl⟩ := List.mem_map.mp hw
  have hk := List.mem_range.mp hk
  match k, hk with
  | 0, _ => exact tb_t (List.mem_append_right _ (List.mem_append_right _ (List.mem_append_right _ (List.mem_append_left _ (List.mem_of_getElem? (i := 59) rfl))))) rfl
  | 1, _ => exact tb_t (List.mem_append_right _ (List.mem_append_right _ (List.mem_append_right _ (List.mem_append_left _ (List.mem_of_getElem? (i := 61) rfl))))) rfl
  | 2, _ => exact tb_t (List.mem_append_right _ (List.mem_append_right _ (List.mem_append_right _ (List.mem_append_left _ (List.mem_of_getElem? (i := 63) rfl))))) rfl
  | 3, _ => exact tb_t (List.mem_append_right _ (List.mem_append_right _ (List.mem_append_right _ (List.mem_append_left _ (List.mem_of_getElem? (i := 65) rfl))))) rfl
  | 4, _ => exact tb_t (List.mem_append_right _ (List.mem_append_right _ (List.mem_append_right _ (List.mem_append_left _ (List.mem_of_getElem? (i := 67) rfl))))) rfl
  | 5, _ => exact tb_t (List.mem_append_right _ (List.mem_append_right _ (List.mem_append_right _ (List.mem_append_left _ (List.mem_of_getElem? (i := 69) rfl))))) rfl
  | 6, _ => exact tb_t (List.mem_append_right _ (List.mem_append_right _ (List.mem_append_right _ (List.mem_append_left _ (List.mem_of_getElem? (i := 71) rfl))))) rfl
  | 7, _ => exact tb_t (List.mem_append_right _ (List.mem_append_right _ (List.mem_append_right _ (List.mem_append_left _ (List.mem_of_getElem? (i := 73) rfl))))) rfl
  | 8, _ => exact tb_t (List.mem_append_right _ (List.mem_append_right _ (List.mem_append_right _ (List.mem_append_left _ (List.mem_of_getElem? (i := 75) rfl))))) rfl
  | 9, _ => exact tb_t (List.mem_append_right _ (List.mem_append_right _ (List.mem_append_right _ (List.mem_append_left _ (List.mem_of_getElem? (i := 77) rfl))))) rfl
  | 10, _ => exact tb_t (List.mem_append_right _ (List.mem_append_right _ (List.mem_append_right _ (List.mem_append_left _ (List.mem_of_getElem? (i := 79) rfl))))) rfl
  | 11, _ => exact tb_t (List.mem_append_right _ (List.mem_append_right _ (List.mem_append_right _ (List.mem_append_left _ (List.mem_of_getElem? (i := 81) rfl))))) rfl
  | 12, _ => exact tb_t (List.mem_append_right _ (List.mem_append_right _ (List.mem_append_right _ (List.mem_append_left _ (List.mem_of_getElem? (i := 83) rfl))))) rfl
  | 13, _ => exact tb_t (List.mem_append_right _ (List.mem_append_right _ (List.mem_append_right _ (List.mem_append_left _ (List.mem_of_getElem? (i := 85) rfl))))) rfl
  | 14, _ => exact tb_t (List.mem_append_right _ (List.mem_append_right _ (List.mem_append_right _ (List.mem_append_left _ (List.mem_of_getElem? (i := 87) rfl))))) rfl
  | 15, _ => exact tb_t (List.mem_append_right _ (List.mem_append_right _ (List.mem_append_right _ (List.mem_append_left _ (List.mem_of_getElem? (i := 89) rfl))))) rfl
  | k + 16, hk => exact absurd hk (by omega)
abbrev vwCl : List vw_C := [("NonceBox$Curve", fT_Cv, 14), ("NonceBox$Field", fT_Fd, 5), ("NonceBox$Mixer", fT_Mx, 5), ("NonceBox$Tagger", fT_Tg, 4), ("NonceBox", fT_NB, 13), ("NonceBoxModel", fT_Md, 16)]
abbrev y_NB_init : MethodName := ⟨"NonceBox", "<init>", "()V"⟩
abbrev c_NB_init : ByteArray := prog_1_method_1_code
abbrev w_NB_init : List Cond := .code y_NB_init c_NB_init 1 none :: tb
theorem kc_NB_init : Cond.code y_NB_init c_NB_init 1 none ∈ tb := tb_t (List.mem_append_left _ (List.mem_of_getElem? (i := 27) rfl)) rfl
abbrev y_Ob_init : MethodName := ⟨"java/lang/Object", "<init>", "()V"⟩
abbrev c_Ob_init : ByteArray := object_method_1_code
abbrev w_Ob_init : List Cond := .code y_Ob_init c_Ob_init 1 none :: tb
theorem kc_Ob_init : Cond.code y_Ob_init c_Ob_init 1 none ∈ tb := tb_t (List.mem_append_left _ (List.mem_of_getElem? (i := 30) rfl)) rfl
abbrev y_Mx_init : MethodName := ⟨"NonceBox$Mixer", "<init>", "()V"⟩
abbrev c_Mx_init : ByteArray := prog_4_method_1_code
abbrev w_Mx_init : List Cond := .code y_Mx_init c_Mx_init 1 none :: tb
theorem kc_Mx_init : Cond.code y_Mx_init c_Mx_init 1 none ∈ tb := tb_t (List.mem_append_left _ (List.mem_of_getElem? (i := 35) rfl)) rfl
abbrev y_Tg_init : MethodName := ⟨"NonceBox$Tagger", "<init>", "()V"⟩
abbrev c_Tg_init : ByteArray := prog_5_method_1_code
abbrev w_Tg_init : List Cond := .code y_Tg_init c_Tg_init 1 none :: tb
theorem kc_Tg_init : Cond.code y_Tg_init c_Tg_init 1 none ∈ tb := tb_t (List.mem_append_left _ (List.mem_of_getElem? (i := 59) rfl)) rfl
abbrev y_Fd_init : MethodName := ⟨"NonceBox$Field", "<init>", "(IJ)V"⟩
abbrev c_Fd_init : ByteArray := prog_3_method_1_code
abbrev w_Fd_init : List Cond := .code y_Fd_init c_Fd_init 4 none :: tb
theorem kc_Fd_init : Cond.code y_Fd_init c_Fd_init 4 none ∈ tb := tb_t (List.mem_append_left _ (List.mem_of_getElem? (i := 66) rfl)) rfl
abbrev y_Fd_newRow : MethodName := ⟨"NonceBox$Field", "newRow", "()[J"⟩
abbrev c_Fd_newRow : ByteArray := prog_3_method_2_code
abbrev w_Fd_newRow : List Cond := .code y_Fd_newRow c_Fd_newRow 1 (Option.some (FieldType.array FieldType.long)) :: tb
theorem kc_Fd_newRow : Cond.code y_Fd_newRow c_Fd_newRow 1 (Option.some (FieldType.array FieldType.long)) ∈ tb := tb_t (List.mem_append_left _ (List.mem_of_getElem? (i := 88) rfl)) rfl
abbrev y_Cv_init : MethodName := ⟨"NonceBox$Curve", "<init>", "()V"⟩
abbrev c_Cv_init : ByteArray := prog_2_method_1_code
abbrev w_Cv_init : List Cond := .code y_Cv_init c_Cv_init 1 none :: tb
theorem kc_Cv_init : Cond.code y_Cv_init c_Cv_init 1 none ∈ tb := tb_t (List.mem_append_left _ (List.mem_of_getElem? (i := 106) rfl)) rfl
abbrev y_NB_put : MethodName := ⟨"NonceBox", "put", "(IIJ)Z"⟩
abbrev c_NB_put : ByteArray := prog_1_method_2_code
abbrev w_NB_put : List Cond := .code y_NB_put c_NB_put 7 (Option.some FieldType.boolean) :: tb
theorem kc_NB_put : Cond.code y_NB_put c_NB_put 7 (Option.some FieldType.boolean) ∈ tb := tb_t (List.mem_append_left _ (List.mem_of_getElem? (i := 198) rfl)) rfl
abbrev y_NB_rowOf : MethodName := ⟨"NonceBox", "rowOf", "(I)[B"⟩
abbrev c_NB_rowOf : ByteArray := prog_1_method_16_code
abbrev w_NB_rowOf : List Cond := .code y_NB_rowOf c_NB_rowOf 2 (Option.some (FieldType.array FieldType.byte)) :: tb
theorem kc_NB_rowOf : Cond.code y_NB_rowOf c_NB_rowOf 2 (Option.some (FieldType.array FieldType.byte)) ∈ tb := tb_t (List.mem_append_left _ (List.mem_of_getElem? (i := 202) rfl)) rfl
abbrev y_NB_hasRoom : MethodName := ⟨"NonceBox", "hasRoom", "([BI)Z"⟩
abbrev c_NB_hasRoom : ByteArray := prog_1_method_17_code
abbrev w_NB_hasRoom : List Cond := .code y_NB_hasRoom c_NB_hasRoom 2 (Option.some FieldType.boolean) :: tb
theorem kc_NB_hasRoom : Cond.code y_NB_hasRoom c_NB_hasRoom 2 (Option.some FieldType.boolean) ∈ tb := tb_t (List.mem_append_left _ (List.mem_of_getElem? (i := 205) rfl)) rfl
abbrev y_NB_length : MethodName := ⟨"NonceBox", "length", "(I)Z"⟩
abbrev c_NB_length : ByteArray := prog_1_method_3_code
abbrev w_NB_length : List Cond := .code y_NB_length c_NB_length 2 (Option.some FieldType.boolean) :: tb
theorem kc_NB_length : Cond.code y_NB_length c_NB_length 2 (Option.some FieldType.boolean) ∈ tb := tb_t (List.mem_append_left _ (List.mem_of_getElem? (i := 209) rfl)) rfl
abbrev y_NB_word : MethodName := ⟨"NonceBox", "word", "(II)J"⟩
abbrev c_NB_word : ByteArray := prog_1_method_4_code
abbrev w_NB_word : List Cond := .code y_NB_word c_NB_word 7 (Option.some FieldType.long) :: tb
theorem kc_NB_word : Cond.code y_NB_word c_NB_word 7 (Option.some FieldType.long) ∈ tb := tb_t (List.mem_append_left _ (List.mem_of_getElem? (i := 213) rfl)) rfl
abbrev y_NB_size : MethodName := ⟨"NonceBox", "size", "(I)I"⟩
abbrev c_NB_size : ByteArray := prog_1_method_5_code
abbrev w_NB_size : List Cond := .code y_NB_size c_NB_size 2 (Option.some FieldType.int) :: tb
theorem kc_NB_size : Cond.code y_NB_size c_NB_size 2 (Option.some FieldType.int) ∈ tb := tb_t (List.mem_append_left _ (List.mem_of_getElem? (i := 217) rfl)) rfl
abbrev y_NB_move : MethodName := ⟨"NonceBox", "move", "(I)Z"⟩
abbrev c_NB_move : ByteArray := prog_1_method_6_code
abbrev w_NB_move : List Cond := .code y_NB_move c_NB_move 2 (Option.some FieldType.boolean) :: tb
theorem kc_NB_move : Cond.code y_NB_move c_NB_move 2 (Option.some FieldType.boolean) ∈ tb := tb_t (List.mem_append_left _ (List.mem_of_getElem? (i := 221) rfl)) rfl
abbrev y_NB_mix : MethodName := ⟨"NonceBox", "mix", "()V"⟩
abbrev c_NB_mix : ByteArray := prog_1_method_7_code
abbrev w_NB_mix : List Cond := .code y_NB_mix c_NB_mix 1 none :: tb
theorem kc_NB_mix : Cond.code y_NB_mix c_NB_mix 1 none ∈ tb := tb_t (List.mem_append_left _ (List.mem_of_getElem? (i := 228) rfl)) rfl
abbrev y_Mx_mixInto : MethodName := ⟨"NonceBox$Mixer", "mixInto", "([B[B[B)V"⟩
abbrev c_Mx_mixInto : ByteArray := prog_4_method_2_code
abbrev w_Mx_mixInto : List Cond := .code y_Mx_mixInto c_Mx_mixInto 5 none :: tb
theorem kc_Mx_mixInto : Cond.code y_Mx_mixInto c_Mx_mixInto 5 none ∈ tb := tb_t (List.mem_append_left _ (List.mem_of_getElem? (i := 232) rfl)) rfl
abbrev y_Mx_layOut : MethodName := ⟨"NonceBox$Mixer", "layOut", "([B[B)V"⟩
abbrev c_Mx_layOut : ByteArray := prog_4_method_5_code
abbrev w_Mx_layOut : List Cond := .code y_Mx_layOut c_Mx_layOut 4 none :: tb
theorem kc_Mx_layOut : Cond.code y_Mx_layOut c_Mx_layOut 4 none ∈ tb := tb_t (List.mem_append_left _ (List.mem_of_getElem? (i := 236) rfl)) rfl
abbrev y_Mx_readWord : MethodName := ⟨"NonceBox$Mixer", "readWord", "([BI)I"⟩
abbrev c_Mx_readWord : ByteArray := prog_4_method_9_code
abbrev w_Mx_readWord : List Cond := .code y_Mx_readWord c_Mx_readWord 2 (Option.some FieldType.int) :: tb
theorem kc_Mx_readWord : Cond.code y_Mx_readWord c_Mx_readWord 2 (Option.some FieldType.int) ∈ tb := tb_t (List.mem_append_right _ (List.mem_append_left _ (List.mem_of_getElem? (i := 3) rfl))) rfl
abbrev y_Mx_turnRounds : MethodName := ⟨"NonceBox$Mixer", "turnRounds", "()V"⟩
abbrev c_Mx_turnRounds : ByteArray := prog_4_method_6_code
abbrev w_Mx_turnRounds : List Cond := .code y_Mx_turnRounds c_Mx_turnRounds 2 none :: tb
theorem kc_Mx_turnRounds : Cond.code y_Mx_turnRounds c_Mx_turnRounds 2 none ∈ tb := tb_t (List.mem_append_right _ (List.mem_append_left _ (List.mem_of_getElem? (i := 8) rfl))) rfl
abbrev y_Mx_quarter : MethodName := ⟨"NonceBox$Mixer", "quarter", "(IIII)V"⟩
abbrev c_Mx_quarter : ByteArray := prog_4_method_7_code
abbrev w_Mx_quarter : List Cond := .code y_Mx_quarter c_Mx_quarter 5 none :: tb
theorem kc_Mx_quarter : Cond.code y_Mx_quarter c_Mx_quarter 5 none ∈ tb := tb_t (List.mem_append_right _ (List.mem_append_left _ (List.mem_of_getElem? (i := 12) rfl))) rfl
abbrev y_Mx_rotated : MethodName := ⟨"NonceBox$Mixer", "rotated", "(II)I"⟩
abbrev c_Mx_rotated : ByteArray := prog_4_method_8_code
abbrev w_Mx_rotated : List Cond := .code y_Mx_rotated c_Mx_rotated 2 (Option.some FieldType.int) :: tb
theorem kc_Mx_rotated : Cond.code y_Mx_rotated c_Mx_rotated 2 (Option.some FieldType.int) ∈ tb := tb_t (List.mem_append_right _ (List.mem_append_left _ (List.mem_of_getElem? (i := 15) rfl))) rfl
abbrev y_Mx_writeWord : MethodName := ⟨"NonceBox$Mixer", "writeWord", "(I[BI)V"⟩
abbrev c_Mx_writeWord : ByteArray := prog_4_method_10_code
abbrev w_Mx_writeWord : List Cond := .code y_Mx_writeWord c_Mx_writeWord 4 none :: tb
theorem kc_Mx_writeWord : Cond.code y_Mx_writeWord c_Mx_writeWord 4 none ∈ tb := tb_t (List.mem_append_right _ (List.mem_append_left _ (List.mem_of_getElem? (i := 18) rfl))) rfl
abbrev y_NB_showWork : MethodName := ⟨"NonceBox", "showWork", "(I)V"⟩
abbrev c_NB_showWork : ByteArray := prog_1_method_18_code
abbrev w_NB_showWork : List Cond := .code y_NB_showWork c_NB_showWork 2 none :: tb
theorem kc_NB_showWork : Cond.code y_NB_showWork c_NB_showWork 2 none ∈ tb := tb_t (List.mem_append_right _ (List.mem_append_left _ (List.mem_of_getElem? (i := 22) rfl))) rfl
abbrev y_Ar_fill0 : MethodName := ⟨"java/util/Arrays", "fill", "([BIIB)V"⟩
abbrev c_Ar_fill0 : ByteArray := prog_22_method_110_code
abbrev w_Ar_fill0 : List Cond := .code y_Ar_fill0 c_Ar_fill0 5 none :: tb
theorem kc_Ar_fill0 : Cond.code y_Ar_fill0 c_Ar_fill0 5 none ∈ tb := tb_t (List.mem_append_right _ (List.mem_append_left _ (List.mem_of_getElem? (i := 25) rfl))) rfl
abbrev y_Ar_rangeCheck : MethodName := ⟨"java/util/Arrays", "rangeCheck", "(III)V"⟩
abbrev c_Ar_rangeCheck : ByteArray := prog_22_method_30_code
abbrev w_Ar_rangeCheck : List Cond := .code y_Ar_rangeCheck c_Ar_rangeCheck 3 none :: tb
theorem kc_Ar_rangeCheck : Cond.code y_Ar_rangeCheck c_Ar_rangeCheck 3 none ∈ tb := tb_t (List.mem_append_right _ (List.mem_append_left _ (List.mem_of_getElem? (i := 28) rfl))) rfl
abbrev y_Ma_max : MethodName := ⟨"java/lang/Math", "max", "(II)I"⟩
abbrev c_Ma_max : ByteArray := prog_14_method_65_code
abbrev w_Ma_max : List Cond := .code y_Ma_max c_Ma_max 2 (Option.some FieldType.int) :: tb
theorem kc_Ma_max : Cond.code y_Ma_max c_Ma_max 2 (Option.some FieldType.int) ∈ tb := tb_t (List.mem_append_right _ (List.mem_append_left _ (List.mem_of_getElem? (i := 125) rfl))) rfl
abbrev y_Ar_copyOf : MethodName := ⟨"java/util/Arrays", "copyOf", "([BI)[B"⟩
abbrev c_Ar_copyOf : ByteArray := prog_22_method_121_code
abbrev w_Ar_copyOf : List Cond := .code y_Ar_copyOf c_Ar_copyOf 3 (Option.some (FieldType.array FieldType.byte)) :: tb
theorem kc_Ar_copyOf : Cond.code y_Ar_copyOf c_Ar_copyOf 3 (Option.some (FieldType.array FieldType.byte)) ∈ tb := tb_t (List.mem_append_right _ (List.mem_append_left _ (List.mem_of_getElem? (i := 133) rfl))) rfl
abbrev y_Ma_min : MethodName := ⟨"java/lang/Math", "min", "(II)I"⟩
abbrev c_Ma_min : ByteArray := prog_14_method_69_code
abbrev w_Ma_min : List Cond := .code y_Ma_min c_Ma_min 2 (Option.some FieldType.int) :: tb
theorem kc_Ma_min : Cond.code y_Ma_min c_Ma_min 2 (Option.some FieldType.int) ∈ tb := tb_t (List.mem_append_right _ (List.mem_append_left _ (List.mem_of_getElem? (i := 143) rfl))) rfl
abbrev y_Ar_copyOfRange : MethodName := ⟨"java/util/Arrays", "copyOfRange", "([BII)[B"⟩
abbrev c_Ar_copyOfRange : ByteArray := prog_22_method_132_code
abbrev w_Ar_copyOfRange : List Cond := .code y_Ar_copyOfRange c_Ar_copyOfRange 3 (Option.some (FieldType.array FieldType.byte)) :: tb
theorem kc_Ar_copyOfRange : Cond.code y_Ar_copyOfRange c_Ar_copyOfRange 3 (Option.some (FieldType.array FieldType.byte)) ∈ tb := tb_t (List.mem_append_right _ (List.mem_append_right _ (List.mem_append_left _ (List.mem_of_getElem? (i := 35) rfl)))) rfl
abbrev y_Ar_copyOfRangeByte : MethodName := ⟨"java/util/Arrays", "copyOfRangeByte", "([BII)[B"⟩
abbrev c_Ar_copyOfRangeByte : ByteArray := prog_22_method_133_code
abbrev w_Ar_copyOfRangeByte : List Cond := .code y_Ar_copyOfRangeByte c_Ar_copyOfRangeByte 5 (Option.some (FieldType.array FieldType.byte)) :: tb
theorem kc_Ar_copyOfRangeByte : Cond.code y_Ar_copyOfRangeByte c_Ar_copyOfRangeByte 5 (Option.some (FieldType.array FieldType.byte)) ∈ tb := tb_t (List.mem_append_right _ (List.mem_append_right _ (List.mem_append_left _ (List.mem_of_getElem? (i := 38) rfl)))) rfl
abbrev y_Ar_checkLength : MethodName := ⟨"java/util/Arrays", "checkLength", "(II)V"⟩
abbrev c_Ar_checkLength : ByteArray := prog_22_method_131_code
abbrev w_Ar_checkLength : List Cond := .code y_Ar_checkLength c_Ar_checkLength 2 none :: tb
theorem kc_Ar_checkLength : Cond.code y_Ar_checkLength c_Ar_checkLength 2 none ∈ tb := tb_t (List.mem_append_right _ (List.mem_append_right _ (List.mem_append_left _ (List.mem_of_getElem? (i := 41) rfl)))) rfl
abbrev y_NB_stream : MethodName := ⟨"NonceBox", "stream", "(I)Z"⟩
abbrev c_NB_stream : ByteArray := prog_1_method_8_code
abbrev w_NB_stream : List Cond := .code y_NB_stream c_NB_stream 2 (Option.some FieldType.boolean) :: tb
theorem kc_NB_stream : Cond.code y_NB_stream c_NB_stream 2 (Option.some FieldType.boolean) ∈ tb := tb_t (List.mem_append_right _ (List.mem_append_right _ (List.mem_append_left _ (List.mem_of_getElem? (i := 95) rfl)))) rfl
abbrev y_Mx_streamOf : MethodName := ⟨"NonceBox$Mixer", "streamOf", "([B[BI)[B"⟩
abbrev c_Mx_streamOf : ByteArray := prog_4_method_3_code
abbrev w_Mx_streamOf : List Cond := .code y_Mx_streamOf c_Mx_streamOf 5 (Option.some (FieldType.array FieldType.byte)) :: tb
theorem kc_Mx_streamOf : Cond.code y_Mx_streamOf c_Mx_streamOf 5 (Option.some (FieldType.array FieldType.byte)) ∈ tb := tb_t (List.mem_append_right _ (List.mem_append_right _ (List.mem_append_left _ (List.mem_of_getElem? (i := 99) rfl)))) rfl
abbrev y_Mx_coreInto : MethodName := ⟨"NonceBox$Mixer", "coreInto", "(I)V"⟩
abbrev c_Mx_coreInto : ByteArray := prog_4_method_4_code
abbrev w_Mx_coreInto : List Cond := .code y_Mx_coreInto c_Mx_coreInto 3 none :: tb
theorem kc_Mx_coreInto : Cond.code y_Mx_coreInto c_Mx_coreInto 3 none ∈ tb := tb_t (List.mem_append_right _ (List.mem_append_right _ (List.mem_append_left _ (List.mem_of_getElem? (i := 104) rfl)))) rfl
abbrev y_NB_tag : MethodName := ⟨"NonceBox", "tag", "()V"⟩
abbrev c_NB_tag : ByteArray := prog_1_method_9_code
abbrev w_NB_tag : List Cond := .code y_NB_tag c_NB_tag 1 none :: tb
theorem kc_NB_tag : Cond.code y_NB_tag c_NB_tag 1 none ∈ tb := tb_t (List.mem_append_right _ (List.mem_append_right _ (List.mem_append_left _ (List.mem_of_getElem? (i := 108) rfl)))) rfl
abbrev y_Tg_tagInto : MethodName := ⟨"NonceBox$Tagger", "tagInto", "([B[BII[B)V"⟩
abbrev c_Tg_tagInto : ByteArray := prog_5_method_2_code
abbrev w_Tg_tagInto : List Cond := .code y_Tg_tagInto c_Tg_tagInto 7 none :: tb
theorem kc_Tg_tagInto : Cond.code y_Tg_tagInto c_Tg_tagInto 7 none ∈ tb := tb_t (List.mem_append_right _ (List.mem_append_right _ (List.mem_append_left _ (List.mem_of_getElem? (i := 112) rfl)))) rfl
abbrev y_Tg_readFactor : MethodName := ⟨"NonceBox$Tagger", "readFactor", "([B)V"⟩
abbrev c_Tg_readFactor : ByteArray := prog_5_method_3_code
abbrev w_Tg_readFactor : List Cond := .code y_Tg_readFactor c_Tg_readFactor 3 none :: tb
theorem kc_Tg_readFactor : Cond.code y_Tg_readFactor c_Tg_readFactor 3 none ∈ tb := tb_t (List.mem_append_right _ (List.mem_append_right _ (List.mem_append_left _ (List.mem_of_getElem? (i := 116) rfl)))) rfl
abbrev y_Fd_setTo : MethodName := ⟨"NonceBox$Field", "setTo", "([JI)V"⟩
abbrev c_Fd_setTo : ByteArray := prog_3_method_3_code
abbrev w_Fd_setTo : List Cond := .code y_Fd_setTo c_Fd_setTo 3 none :: tb
theorem kc_Fd_setTo : Cond.code y_Fd_setTo c_Fd_setTo 3 none ∈ tb := tb_t (List.mem_append_right _ (List.mem_append_right _ (List.mem_append_left _ (List.mem_of_getElem? (i := 121) rfl)))) rfl
abbrev y_Ar_fill1 : MethodName := ⟨"java/util/Arrays", "fill", "([JJ)V"⟩
abbrev c_Ar_fill1 : ByteArray := prog_22_method_101_code
abbrev w_Ar_fill1 : List Cond := .code y_Ar_fill1 c_Ar_fill1 5 none :: tb
theorem kc_Ar_fill1 : Cond.code y_Ar_fill1 c_Ar_fill1 5 none ∈ tb := tb_t (List.mem_append_right _ (List.mem_append_right _ (List.mem_append_left _ (List.mem_of_getElem? (i := 124) rfl)))) rfl
abbrev y_Fd_addBytes : MethodName := ⟨"NonceBox$Field", "addBytes", "([BII[J)V"⟩
abbrev c_Fd_addBytes : ByteArray := prog_3_method_10_code
abbrev w_Fd_addBytes : List Cond := .code y_Fd_addBytes c_Fd_addBytes 6 none :: tb
theorem kc_Fd_addBytes : Cond.code y_Fd_addBytes c_Fd_addBytes 6 none ∈ tb := tb_t (List.mem_append_right _ (List.mem_append_right _ (List.mem_append_left _ (List.mem_of_getElem? (i := 128) rfl)))) rfl
abbrev y_Fd_addByte : MethodName := ⟨"NonceBox$Field", "addByte", "(JI[J)V"⟩
abbrev c_Fd_addByte : ByteArray := prog_3_method_11_code
abbrev w_Fd_addByte : List Cond := .code y_Fd_addByte c_Fd_addByte 5 none :: tb
theorem kc_Fd_addByte : Cond.code y_Fd_addByte c_Fd_addByte 5 none ∈ tb := tb_t (List.mem_append_right _ (List.mem_append_right _ (List.mem_append_left _ (List.mem_of_getElem? (i := 132) rfl)))) rfl
abbrev y_Fd_carry : MethodName := ⟨"NonceBox$Field", "carry", "([J)V"⟩
abbrev c_Fd_carry : ByteArray := prog_3_method_14_code
abbrev w_Fd_carry : List Cond := .code y_Fd_carry c_Fd_carry 2 none :: tb
theorem kc_Fd_carry : Cond.code y_Fd_carry c_Fd_carry 2 none ∈ tb := tb_t (List.mem_append_right _ (List.mem_append_right _ (List.mem_append_left _ (List.mem_of_getElem? (i := 135) rfl)))) rfl
abbrev y_Tg_takePiece : MethodName := ⟨"NonceBox$Tagger", "takePiece", "([BII)V"⟩
abbrev c_Tg_takePiece : ByteArray := prog_5_method_4_code
abbrev w_Tg_takePiece : List Cond := .code y_Tg_takePiece c_Tg_takePiece 4 none :: tb
theorem kc_Tg_takePiece : Cond.code y_Tg_takePiece c_Tg_takePiece 4 none ∈ tb := tb_t (List.mem_append_right _ (List.mem_append_right _ (List.mem_append_left _ (List.mem_of_getElem? (i := 141) rfl)))) rfl
abbrev y_Fd_times : MethodName := ⟨"NonceBox$Field", "times", "([J[J[J)V"⟩
abbrev c_Fd_times : ByteArray := prog_3_method_8_code
abbrev w_Fd_times : List Cond := .code y_Fd_times c_Fd_times 8 none :: tb
theorem kc_Fd_times : Cond.code y_Fd_times c_Fd_times 8 none ∈ tb := tb_t (List.mem_append_right _ (List.mem_append_right _ (List.mem_append_left _ (List.mem_of_getElem? (i := 146) rfl)))) rfl
abbrev y_Fd_foldTop : MethodName := ⟨"NonceBox$Field", "foldTop", "([J)V"⟩
abbrev c_Fd_foldTop : ByteArray := prog_3_method_13_code
abbrev w_Fd_foldTop : List Cond := .code y_Fd_foldTop c_Fd_foldTop 4 none :: tb
theorem kc_Fd_foldTop : Cond.code y_Fd_foldTop c_Fd_foldTop 4 none ∈ tb := tb_t (List.mem_append_right _ (List.mem_append_right _ (List.mem_append_left _ (List.mem_of_getElem? (i := 150) rfl)))) rfl
abbrev y_Fd_settle : MethodName := ⟨"NonceBox$Field", "settle", "([J)V"⟩
abbrev c_Fd_settle : ByteArray := prog_3_method_9_code
abbrev w_Fd_settle : List Cond := .code y_Fd_settle c_Fd_settle 2 none :: tb
theorem kc_Fd_settle : Cond.code y_Fd_settle c_Fd_settle 2 none ∈ tb := tb_t (List.mem_append_right _ (List.mem_append_right _ (List.mem_append_left _ (List.mem_of_getElem? (i := 154) rfl)))) rfl
abbrev y_Fd_writeBytes : MethodName := ⟨"NonceBox$Field", "writeBytes", "([J[BI)V"⟩
abbrev c_Fd_writeBytes : ByteArray := prog_3_method_12_code
abbrev w_Fd_writeBytes : List Cond := .code y_Fd_writeBytes c_Fd_writeBytes 9 none :: tb
theorem kc_Fd_writeBytes : Cond.code y_Fd_writeBytes c_Fd_writeBytes 9 none ∈ tb := tb_t (List.mem_append_right _ (List.mem_append_right _ (List.mem_append_left _ (List.mem_of_getElem? (i := 158) rfl)))) rfl
abbrev y_NB_multiply : MethodName := ⟨"NonceBox", "multiply", "()V"⟩
abbrev c_NB_multiply : ByteArray := prog_1_method_10_code
abbrev w_NB_multiply : List Cond := .code y_NB_multiply c_NB_multiply 1 none :: tb
theorem kc_NB_multiply : Cond.code y_NB_multiply c_NB_multiply 1 none ∈ tb := tb_t (List.mem_append_right _ (List.mem_append_right _ (List.mem_append_left _ (List.mem_of_getElem? (i := 162) rfl)))) rfl
abbrev y_Cv_multipleInto : MethodName := ⟨"NonceBox$Curve", "multipleInto", "([B[B[B)V"⟩
abbrev c_Cv_multipleInto : ByteArray := prog_2_method_2_code
abbrev w_Cv_multipleInto : List Cond := .code y_Cv_multipleInto c_Cv_multipleInto 5 none :: tb
theorem kc_Cv_multipleInto : Cond.code y_Cv_multipleInto c_Cv_multipleInto 5 none ∈ tb := tb_t (List.mem_append_right _ (List.mem_append_right _ (List.mem_append_left _ (List.mem_of_getElem? (i := 166) rfl)))) rfl
abbrev y_Cv_begin : MethodName := ⟨"NonceBox$Curve", "begin", "([B)V"⟩
abbrev c_Cv_begin : ByteArray := prog_2_method_3_code
abbrev w_Cv_begin : List Cond := .code y_Cv_begin c_Cv_begin 2 none :: tb
theorem kc_Cv_begin : Cond.code y_Cv_begin c_Cv_begin 2 none ∈ tb := tb_t (List.mem_append_right _ (List.mem_append_right _ (List.mem_append_left _ (List.mem_of_getElem? (i := 170) rfl)))) rfl
abbrev y_Fd_copy : MethodName := ⟨"NonceBox$Field", "copy", "([J[J)V"⟩
abbrev c_Fd_copy : ByteArray := prog_3_method_4_code
abbrev w_Fd_copy : List Cond := .code y_Fd_copy c_Fd_copy 3 none :: tb
theorem kc_Fd_copy : Cond.code y_Fd_copy c_Fd_copy 3 none ∈ tb := tb_t (List.mem_append_right _ (List.mem_append_right _ (List.mem_append_left _ (List.mem_of_getElem? (i := 177) rfl)))) rfl
abbrev y_Cv_readKey : MethodName := ⟨"NonceBox$Curve", "readKey", "([B)V"⟩
abbrev c_Cv_readKey : ByteArray := prog_2_method_4_code
abbrev w_Cv_readKey : List Cond := .code y_Cv_readKey c_Cv_readKey 2 none :: tb
theorem kc_Cv_readKey : Cond.code y_Cv_readKey c_Cv_readKey 2 none ∈ tb := tb_t (List.mem_append_right _ (List.mem_append_right _ (List.mem_append_left _ (List.mem_of_getElem? (i := 182) rfl)))) rfl
abbrev y_Cv_step : MethodName := ⟨"NonceBox$Curve", "step", "([J[J[J[J)V"⟩
abbrev c_Cv_step : ByteArray := prog_2_method_5_code
abbrev w_Cv_step : List Cond := .code y_Cv_step c_Cv_step 5 none :: tb
theorem kc_Cv_step : Cond.code y_Cv_step c_Cv_step 5 none ∈ tb := tb_t (List.mem_append_right _ (List.mem_append_right _ (List.mem_append_left _ (List.mem_of_getElem? (i := 186) rfl)))) rfl
abbrev y_Fd_plus : MethodName := ⟨"NonceBox$Field", "plus", "([J[J[J)V"⟩
abbrev c_Fd_plus : ByteArray := prog_3_method_5_code
abbrev w_Fd_plus : List Cond := .code y_Fd_plus c_Fd_plus 5 none :: tb
theorem kc_Fd_plus : Cond.code y_Fd_plus c_Fd_plus 5 none ∈ tb := tb_t (List.mem_append_right _ (List.mem_append_right _ (List.mem_append_left _ (List.mem_of_getElem? (i := 190) rfl)))) rfl
abbrev y_Fd_minus : MethodName := ⟨"NonceBox$Field", "minus", "([J[J[J)V"⟩
abbrev c_Fd_minus : ByteArray := prog_3_method_6_code
abbrev w_Fd_minus : List Cond := .code y_Fd_minus c_Fd_minus 5 none :: tb
theorem kc_Fd_minus : Cond.code y_Fd_minus c_Fd_minus 5 none ∈ tb := tb_t (List.mem_append_right _ (List.mem_append_right _ (List.mem_append_left _ (List.mem_of_getElem? (i := 194) rfl)))) rfl
abbrev y_Fd_scale : MethodName := ⟨"NonceBox$Field", "scale", "([JI[J)V"⟩
abbrev c_Fd_scale : ByteArray := prog_3_method_7_code
abbrev w_Fd_scale : List Cond := .code y_Fd_scale c_Fd_scale 5 none :: tb
theorem kc_Fd_scale : Cond.code y_Fd_scale c_Fd_scale 5 none ∈ tb := tb_t (List.mem_append_right _ (List.mem_append_right _ (List.mem_append_left _ (List.mem_of_getElem? (i := 200) rfl)))) rfl
abbrev y_Cv_invert : MethodName := ⟨"NonceBox$Curve", "invert", "([J[J)V"⟩
abbrev c_Cv_invert : ByteArray := prog_2_method_6_code
abbrev w_Cv_invert : List Cond := .code y_Cv_invert c_Cv_invert 4 none :: tb
theorem kc_Cv_invert : Cond.code y_Cv_invert c_Cv_invert 4 none ∈ tb := tb_t (List.mem_append_right _ (List.mem_append_right _ (List.mem_append_left _ (List.mem_of_getElem? (i := 204) rfl)))) rfl
abbrev y_NB_agree : MethodName := ⟨"NonceBox", "agree", "()V"⟩
abbrev c_NB_agree : ByteArray := prog_1_method_11_code
abbrev w_NB_agree : List Cond := .code y_NB_agree c_NB_agree 1 none :: tb
theorem kc_NB_agree : Cond.code y_NB_agree c_NB_agree 1 none ∈ tb := tb_t (List.mem_append_right _ (List.mem_append_right _ (List.mem_append_left _ (List.mem_of_getElem? (i := 210) rfl)))) rfl
abbrev y_NB_findAgreedKey : MethodName := ⟨"NonceBox", "findAgreedKey", "()V"⟩
abbrev c_NB_findAgreedKey : ByteArray := prog_1_method_19_code
abbrev w_NB_findAgreedKey : List Cond := .code y_NB_findAgreedKey c_NB_findAgreedKey 1 none :: tb
theorem kc_NB_findAgreedKey : Cond.code y_NB_findAgreedKey c_NB_findAgreedKey 1 none ∈ tb := tb_t (List.mem_append_right _ (List.mem_append_right _ (List.mem_append_left _ (List.mem_of_getElem? (i := 214) rfl)))) rfl
abbrev y_NB_seal : MethodName := ⟨"NonceBox", "seal", "()I"⟩
abbrev c_NB_seal : ByteArray := prog_1_method_12_code
abbrev w_NB_seal : List Cond := .code y_NB_seal c_NB_seal 1 (Option.some FieldType.int) :: tb
theorem kc_NB_seal : Cond.code y_NB_seal c_NB_seal 1 (Option.some FieldType.int) ∈ tb := tb_t (List.mem_append_right _ (List.mem_append_right _ (List.mem_append_left _ (List.mem_of_getElem? (i := 222) rfl)))) rfl
abbrev y_NB_sealBy : MethodName := ⟨"NonceBox", "sealBy", "([B)V"⟩
abbrev c_NB_sealBy : ByteArray := prog_1_method_20_code
abbrev w_NB_sealBy : List Cond := .code y_NB_sealBy c_NB_sealBy 5 none :: tb
theorem kc_NB_sealBy : Cond.code y_NB_sealBy c_NB_sealBy 5 none ∈ tb := tb_t (List.mem_append_right _ (List.mem_append_right _ (List.mem_append_left _ (List.mem_of_getElem? (i := 229) rfl)))) rfl
abbrev y_NB_open : MethodName := ⟨"NonceBox", "open", "()I"⟩
abbrev c_NB_open : ByteArray := prog_1_method_13_code
abbrev w_NB_open : List Cond := .code y_NB_open c_NB_open 1 (Option.some FieldType.int) :: tb
theorem kc_NB_open : Cond.code y_NB_open c_NB_open 1 (Option.some FieldType.int) ∈ tb := tb_t (List.mem_append_right _ (List.mem_append_right _ (List.mem_append_left _ (List.mem_of_getElem? (i := 237) rfl)))) rfl
abbrev y_NB_openBy : MethodName := ⟨"NonceBox", "openBy", "([B)Z"⟩
abbrev c_NB_openBy : ByteArray := prog_1_method_21_code
abbrev w_NB_openBy : List Cond := .code y_NB_openBy c_NB_openBy 5 (Option.some FieldType.boolean) :: tb
theorem kc_NB_openBy : Cond.code y_NB_openBy c_NB_openBy 5 (Option.some FieldType.boolean) ∈ tb := tb_t (List.mem_append_right _ (List.mem_append_right _ (List.mem_append_right _ (List.mem_append_left _ (List.mem_of_getElem? (i := 2) rfl))))) rfl
abbrev y_NB_textBeginsAsWork : MethodName := ⟨"NonceBox", "textBeginsAsWork", "()Z"⟩
abbrev c_NB_textBeginsAsWork : ByteArray := prog_1_method_22_code
abbrev w_NB_textBeginsAsWork : List Cond := .code y_NB_textBeginsAsWork c_NB_textBeginsAsWork 3 (Option.some FieldType.boolean) :: tb
theorem kc_NB_textBeginsAsWork : Cond.code y_NB_textBeginsAsWork c_NB_textBeginsAsWork 3 (Option.some FieldType.boolean) ∈ tb := tb_t (List.mem_append_right _ (List.mem_append_right _ (List.mem_append_right _ (List.mem_append_left _ (List.mem_of_getElem? (i := 6) rfl))))) rfl
abbrev y_NB_box : MethodName := ⟨"NonceBox", "box", "()I"⟩
abbrev c_NB_box : ByteArray := prog_1_method_14_code
abbrev w_NB_box : List Cond := .code y_NB_box c_NB_box 1 (Option.some FieldType.int) :: tb
theorem kc_NB_box : Cond.code y_NB_box c_NB_box 1 (Option.some FieldType.int) ∈ tb := tb_t (List.mem_append_right _ (List.mem_append_right _ (List.mem_append_right _ (List.mem_append_left _ (List.mem_of_getElem? (i := 29) rfl))))) rfl
abbrev y_NB_unbox : MethodName := ⟨"NonceBox", "unbox", "()I"⟩
abbrev c_NB_unbox : ByteArray := prog_1_method_15_code
abbrev w_NB_unbox : List Cond := .code y_NB_unbox c_NB_unbox 1 (Option.some FieldType.int) :: tb
theorem kc_NB_unbox : Cond.code y_NB_unbox c_NB_unbox 1 (Option.some FieldType.int) ∈ tb := tb_t (List.mem_append_right _ (List.mem_append_right _ (List.mem_append_right _ (List.mem_append_left _ (List.mem_of_getElem? (i := 36) rfl))))) rfl
abbrev y_Md_init : MethodName := ⟨"NonceBoxModel", "<init>", "()V"⟩
abbrev c_Md_init : ByteArray := prog_7_method_1_code
abbrev w_Md_init : List Cond := .code y_Md_init c_Md_init 1 none :: tb
theorem kc_Md_init : Cond.code y_Md_init c_Md_init 1 none ∈ tb := tb_t (List.mem_append_right _ (List.mem_append_right _ (List.mem_append_right _ (List.mem_append_left _ (List.mem_of_getElem? (i := 41) rfl))))) rfl
abbrev y_Md_thrown : MethodName := ⟨"NonceBoxModel", "thrown", "()I"⟩
abbrev c_Md_thrown : ByteArray := prog_7_method_2_code
abbrev w_Md_thrown : List Cond := .code y_Md_thrown c_Md_thrown 1 (Option.some FieldType.int) :: tb
theorem kc_Md_thrown : Cond.code y_Md_thrown c_Md_thrown 1 (Option.some FieldType.int) ∈ tb := tb_t (List.mem_append_right _ (List.mem_append_right _ (List.mem_append_right _ (List.mem_append_left _ (List.mem_of_getElem? (i := 95) rfl))))) rfl
abbrev y_Md_put : MethodName := ⟨"NonceBoxModel", "put", "(IIJ)Z"⟩
abbrev c_Md_put : ByteArray := prog_7_method_6_code
abbrev w_Md_put : List Cond := .code y_Md_put c_Md_put 7 (Option.some FieldType.boolean) :: tb
theorem kc_Md_put : Cond.code y_Md_put c_Md_put 7 (Option.some FieldType.boolean) ∈ tb := tb_t (List.mem_append_right _ (List.mem_append_right _ (List.mem_append_right _ (List.mem_append_left _ (List.mem_of_getElem? (i := 99) rfl))))) rfl
abbrev y_Md_fits : MethodName := ⟨"NonceBoxModel", "fits", "(III)Z"⟩
abbrev c_Md_fits : ByteArray := prog_7_method_5_code
abbrev w_Md_fits : List Cond := .code y_Md_fits c_Md_fits 3 (Option.some FieldType.boolean) :: tb
theorem kc_Md_fits : Cond.code y_Md_fits c_Md_fits 3 (Option.some FieldType.boolean) ∈ tb := tb_t (List.mem_append_right _ (List.mem_append_right _ (List.mem_append_right _ (List.mem_append_left _ (List.mem_of_getElem? (i := 102) rfl))))) rfl
abbrev y_Md_room : MethodName := ⟨"NonceBoxModel", "room", "(I)I"⟩
abbrev c_Md_room : ByteArray := prog_7_method_3_code
abbrev w_Md_room : List Cond := .code y_Md_room c_Md_room 1 (Option.some FieldType.int) :: tb
theorem kc_Md_room : Cond.code y_Md_room c_Md_room 1 (Option.some FieldType.int) ∈ tb := tb_t (List.mem_append_right _ (List.mem_append_right _ (List.mem_append_right _ (List.mem_append_left _ (List.mem_of_getElem? (i := 105) rfl))))) rfl
abbrev y_Md_begin : MethodName := ⟨"NonceBoxModel", "begin", "(I)I"⟩
abbrev c_Md_begin : ByteArray := prog_7_method_4_code
abbrev w_Md_begin : List Cond := .code y_Md_begin c_Md_begin 1 (Option.some FieldType.int) :: tb
theorem kc_Md_begin : Cond.code y_Md_begin c_Md_begin 1 (Option.some FieldType.int) ∈ tb := tb_t (List.mem_append_right _ (List.mem_append_right _ (List.mem_append_right _ (List.mem_append_left _ (List.mem_of_getElem? (i := 108) rfl))))) rfl
abbrev y_Md_length : MethodName := ⟨"NonceBoxModel", "length", "(I)Z"⟩
abbrev c_Md_length : ByteArray := prog_7_method_7_code
abbrev w_Md_length : List Cond := .code y_Md_length c_Md_length 2 (Option.some FieldType.boolean) :: tb
theorem kc_Md_length : Cond.code y_Md_length c_Md_length 2 (Option.some FieldType.boolean) ∈ tb := tb_t (List.mem_append_right _ (List.mem_append_right _ (List.mem_append_right _ (List.mem_append_left _ (List.mem_of_getElem? (i := 113) rfl))))) rfl
abbrev y_Md_word : MethodName := ⟨"NonceBoxModel", "word", "(II)J"⟩
abbrev c_Md_word : ByteArray := prog_7_method_8_code
abbrev w_Md_word : List Cond := .code y_Md_word c_Md_word 7 (Option.some FieldType.long) :: tb
theorem kc_Md_word : Cond.code y_Md_word c_Md_word 7 (Option.some FieldType.long) ∈ tb := tb_t (List.mem_append_right _ (List.mem_append_right _ (List.mem_append_right _ (List.mem_append_left _ (List.mem_of_getElem? (i := 117) rfl))))) rfl
abbrev y_Md_size : MethodName := ⟨"NonceBoxModel", "size", "(I)I"⟩
abbrev c_Md_size : ByteArray := prog_7_method_9_code
abbrev w_Md_size : List Cond := .code y_Md_size c_Md_size 2 (Option.some FieldType.int) :: tb
theorem kc_Md_size : Cond.code y_Md_size c_Md_size 2 (Option.some FieldType.int) ∈ tb := tb_t (List.mem_append_right _ (List.mem_append_right _ (List.mem_append_right _ (List.mem_append_left _ (List.mem_of_getElem? (i := 121) rfl))))) rfl
abbrev y_Md_move : MethodName := ⟨"NonceBoxModel", "move", "(I)Z"⟩
abbrev c_Md_move : ByteArray := prog_7_method_10_code
abbrev w_Md_move : List Cond := .code y_Md_move c_Md_move 5 (Option.some FieldType.boolean) :: tb
theorem kc_Md_move : Cond.code y_Md_move c_Md_move 5 (Option.some FieldType.boolean) ∈ tb := tb_t (List.mem_append_right _ (List.mem_append_right _ (List.mem_append_right _ (List.mem_append_left _ (List.mem_of_getElem? (i := 125) rfl))))) rfl
abbrev y_Md_mix : MethodName := ⟨"NonceBoxModel", "mix", "()V"⟩
abbrev c_Md_mix : ByteArray := prog_7_method_21_code
abbrev w_Md_mix : List Cond := .code y_Md_mix c_Md_mix 2 none :: tb
theorem kc_Md_mix : Cond.code y_Md_mix c_Md_mix 2 none ∈ tb := tb_t (List.mem_append_right _ (List.mem_append_right _ (List.mem_append_right _ (List.mem_append_left _ (List.mem_of_getElem? (i := 129) rfl))))) rfl
abbrev y_Md_takeKey : MethodName := ⟨"NonceBoxModel", "takeKey", "()V"⟩
abbrev c_Md_takeKey : ByteArray := prog_7_method_18_code
abbrev w_Md_takeKey : List Cond := .code y_Md_takeKey c_Md_takeKey 2 none :: tb
theorem kc_Md_takeKey : Cond.code y_Md_takeKey c_Md_takeKey 2 none ∈ tb := tb_t (List.mem_append_right _ (List.mem_append_right _ (List.mem_append_right _ (List.mem_append_left _ (List.mem_of_getElem? (i := 133) rfl))))) rfl
abbrev y_Md_mixKey : MethodName := ⟨"NonceBoxModel", "mixKey", "()V"⟩
abbrev c_Md_mixKey : ByteArray := prog_7_method_17_code
abbrev w_Md_mixKey : List Cond := .code y_Md_mixKey c_Md_mixKey 2 none :: tb
theorem kc_Md_mixKey : Cond.code y_Md_mixKey c_Md_mixKey 2 none ∈ tb := tb_t (List.mem_append_right _ (List.mem_append_right _ (List.mem_append_right _ (List.mem_append_left _ (List.mem_of_getElem? (i := 137) rfl))))) rfl
abbrev y_Md_stir : MethodName := ⟨"NonceBoxModel", "stir", "()V"⟩
abbrev c_Md_stir : ByteArray := prog_7_method_16_code
abbrev w_Md_stir : List Cond := .code y_Md_stir c_Md_stir 2 none :: tb
theorem kc_Md_stir : Cond.code y_Md_stir c_Md_stir 2 none ∈ tb := tb_t (List.mem_append_right _ (List.mem_append_right _ (List.mem_append_right _ (List.mem_append_left _ (List.mem_of_getElem? (i := 141) rfl))))) rfl
abbrev y_Md_wordAt : MethodName := ⟨"NonceBoxModel", "wordAt", "([II)I"⟩
abbrev c_Md_wordAt : ByteArray := prog_7_method_12_code
abbrev w_Md_wordAt : List Cond := .code y_Md_wordAt c_Md_wordAt 2 (Option.some FieldType.int) :: tb
theorem kc_Md_wordAt : Cond.code y_Md_wordAt c_Md_wordAt 2 (Option.some FieldType.int) ∈ tb := tb_t (List.mem_append_right _ (List.mem_append_right _ (List.mem_append_right _ (List.mem_append_left _ (List.mem_of_getElem? (i := 148) rfl))))) rfl
abbrev y_Md_quarter : MethodName := ⟨"NonceBoxModel", "quarter", "(IIII)V"⟩
abbrev c_Md_quarter : ByteArray := prog_7_method_15_code
abbrev w_Md_quarter : List Cond := .code y_Md_quarter c_Md_quarter 5 none :: tb
theorem kc_Md_quarter : Cond.code y_Md_quarter c_Md_quarter 5 none ∈ tb := tb_t (List.mem_append_right _ (List.mem_append_right _ (List.mem_append_right _ (List.mem_append_left _ (List.mem_of_getElem? (i := 152) rfl))))) rfl
abbrev y_Md_rotated : MethodName := ⟨"NonceBoxModel", "rotated", "(II)I"⟩
abbrev c_Md_rotated : ByteArray := prog_7_method_14_code
abbrev w_Md_rotated : List Cond := .code y_Md_rotated c_Md_rotated 2 (Option.some FieldType.int) :: tb
theorem kc_Md_rotated : Cond.code y_Md_rotated c_Md_rotated 2 (Option.some FieldType.int) ∈ tb := tb_t (List.mem_append_right _ (List.mem_append_right _ (List.mem_append_right _ (List.mem_append_left _ (List.mem_of_getElem? (i := 155) rfl))))) rfl
abbrev y_Md_setWord : MethodName := ⟨"NonceBoxModel", "setWord", "([III)V"⟩
abbrev c_Md_setWord : ByteArray := prog_7_method_13_code
abbrev w_Md_setWord : List Cond := .code y_Md_setWord c_Md_setWord 4 none :: tb
theorem kc_Md_setWord : Cond.code y_Md_setWord c_Md_setWord 4 none ∈ tb := tb_t (List.mem_append_right _ (List.mem_append_right _ (List.mem_append_right _ (List.mem_append_left _ (List.mem_of_getElem? (i := 158) rfl))))) rfl
abbrev y_Md_outFrom : MethodName := ⟨"NonceBoxModel", "outFrom", "([II)V"⟩
abbrev c_Md_outFrom : ByteArray := prog_7_method_20_code
abbrev w_Md_outFrom : List Cond := .code y_Md_outFrom c_Md_outFrom 4 none :: tb
theorem kc_Md_outFrom : Cond.code y_Md_outFrom c_Md_outFrom 4 none ∈ tb := tb_t (List.mem_append_right _ (List.mem_append_right _ (List.mem_append_right _ (List.mem_append_left _ (List.mem_of_getElem? (i := 162) rfl))))) rfl
abbrev y_Md_beginOut : MethodName := ⟨"NonceBoxModel", "beginOut", "(I)V"⟩
abbrev c_Md_beginOut : ByteArray := prog_7_method_11_code
abbrev w_Md_beginOut : List Cond := .code y_Md_beginOut c_Md_beginOut 3 none :: tb
theorem kc_Md_beginOut : Cond.code y_Md_beginOut c_Md_beginOut 3 none ∈ tb := tb_t (List.mem_append_right _ (List.mem_append_right _ (List.mem_append_right _ (List.mem_append_left _ (List.mem_of_getElem? (i := 166) rfl))))) rfl
abbrev y_Md_stream : MethodName := ⟨"NonceBoxModel", "stream", "(I)Z"⟩
abbrev c_Md_stream : ByteArray := prog_7_method_22_code
abbrev w_Md_stream : List Cond := .code y_Md_stream c_Md_stream 2 (Option.some FieldType.boolean) :: tb
theorem kc_Md_stream : Cond.code y_Md_stream c_Md_stream 2 (Option.some FieldType.boolean) ∈ tb := tb_t (List.mem_append_right _ (List.mem_append_right _ (List.mem_append_right _ (List.mem_append_left _ (List.mem_of_getElem? (i := 170) rfl))))) rfl
abbrev y_Md_flow : MethodName := ⟨"NonceBoxModel", "flow", "()V"⟩
abbrev c_Md_flow : ByteArray := prog_7_method_19_code
abbrev w_Md_flow : List Cond := .code y_Md_flow c_Md_flow 3 none :: tb
theorem kc_Md_flow : Cond.code y_Md_flow c_Md_flow 3 none ∈ tb := tb_t (List.mem_append_right _ (List.mem_append_right _ (List.mem_append_right _ (List.mem_append_left _ (List.mem_of_getElem? (i := 174) rfl))))) rfl
abbrev y_Md_tag : MethodName := ⟨"NonceBoxModel", "tag", "()V"⟩
abbrev c_Md_tag : ByteArray := prog_7_method_29_code
abbrev w_Md_tag : List Cond := .code y_Md_tag c_Md_tag 2 none :: tb
theorem kc_Md_tag : Cond.code y_Md_tag c_Md_tag 2 none ∈ tb := tb_t (List.mem_append_right _ (List.mem_append_right _ (List.mem_append_right _ (List.mem_append_left _ (List.mem_of_getElem? (i := 178) rfl))))) rfl
abbrev y_Md_makeTag : MethodName := ⟨"NonceBoxModel", "makeTag", "(I)V"⟩
abbrev c_Md_makeTag : ByteArray := prog_7_method_28_code
abbrev w_Md_makeTag : List Cond := .code y_Md_makeTag c_Md_makeTag 7 none :: tb
theorem kc_Md_makeTag : Cond.code y_Md_makeTag c_Md_makeTag 7 none ∈ tb := tb_t (List.mem_append_right _ (List.mem_append_right _ (List.mem_append_right _ (List.mem_append_left _ (List.mem_of_getElem? (i := 182) rfl))))) rfl
abbrev y_Md_limitOf : MethodName := ⟨"NonceBoxModel", "limitOf", "(I)I"⟩
abbrev c_Md_limitOf : ByteArray := prog_7_method_23_code
abbrev w_Md_limitOf : List Cond := .code y_Md_limitOf c_Md_limitOf 1 (Option.some FieldType.int) :: tb
theorem kc_Md_limitOf : Cond.code y_Md_limitOf c_Md_limitOf 1 (Option.some FieldType.int) ∈ tb := tb_t (List.mem_append_right _ (List.mem_append_right _ (List.mem_append_right _ (List.mem_append_left _ (List.mem_of_getElem? (i := 185) rfl))))) rfl
abbrev y_Md_addByte : MethodName := ⟨"NonceBoxModel", "addByte", "([JII)V"⟩
abbrev c_Md_addByte : ByteArray := prog_7_method_24_code
abbrev w_Md_addByte : List Cond := .code y_Md_addByte c_Md_addByte 5 none :: tb
theorem kc_Md_addByte : Cond.code y_Md_addByte c_Md_addByte 5 none ∈ tb := tb_t (List.mem_append_right _ (List.mem_append_right _ (List.mem_append_right _ (List.mem_append_left _ (List.mem_of_getElem? (i := 188) rfl))))) rfl
abbrev y_Md_timesR : MethodName := ⟨"NonceBoxModel", "timesR", "()V"⟩
abbrev c_Md_timesR : ByteArray := prog_7_method_26_code
abbrev w_Md_timesR : List Cond := .code y_Md_timesR c_Md_timesR 6 none :: tb
theorem kc_Md_timesR : Cond.code y_Md_timesR c_Md_timesR 6 none ∈ tb := tb_t (List.mem_append_right _ (List.mem_append_right _ (List.mem_append_right _ (List.mem_append_left _ (List.mem_of_getElem? (i := 192) rfl))))) rfl
abbrev y_Md_carryTag : MethodName := ⟨"NonceBoxModel", "carryTag", "()V"⟩
abbrev c_Md_carryTag : ByteArray := prog_7_method_25_code
abbrev w_Md_carryTag : List Cond := .code y_Md_carryTag c_Md_carryTag 5 none :: tb
theorem kc_Md_carryTag : Cond.code y_Md_carryTag c_Md_carryTag 5 none ∈ tb := tb_t (List.mem_append_right _ (List.mem_append_right _ (List.mem_append_right _ (List.mem_append_left _ (List.mem_of_getElem? (i := 197) rfl))))) rfl
abbrev y_Md_finishTag : MethodName := ⟨"NonceBoxModel", "finishTag", "()V"⟩
abbrev c_Md_finishTag : ByteArray := prog_7_method_27_code
abbrev w_Md_finishTag : List Cond := .code y_Md_finishTag c_Md_finishTag 4 none :: tb
theorem kc_Md_finishTag : Cond.code y_Md_finishTag c_Md_finishTag 4 none ∈ tb := tb_t (List.mem_append_right _ (List.mem_append_right _ (List.mem_append_right _ (List.mem_append_left _ (List.mem_of_getElem? (i := 202) rfl))))) rfl
abbrev y_Md_multiply : MethodName := ⟨"NonceBoxModel", "multiply", "()V"⟩
abbrev c_Md_multiply : ByteArray := prog_7_method_41_code
abbrev w_Md_multiply : List Cond := .code y_Md_multiply c_Md_multiply 1 none :: tb
theorem kc_Md_multiply : Cond.code y_Md_multiply c_Md_multiply 1 none ∈ tb := tb_t (List.mem_append_right _ (List.mem_append_right _ (List.mem_append_right _ (List.mem_append_left _ (List.mem_of_getElem? (i := 206) rfl))))) rfl
abbrev y_Md_multipleKey : MethodName := ⟨"NonceBoxModel", "multipleKey", "()V"⟩
abbrev c_Md_multipleKey : ByteArray := prog_7_method_39_code
abbrev w_Md_multipleKey : List Cond := .code y_Md_multipleKey c_Md_multipleKey 5 none :: tb
theorem kc_Md_multipleKey : Cond.code y_Md_multipleKey c_Md_multipleKey 5 none ∈ tb := tb_t (List.mem_append_right _ (List.mem_append_right _ (List.mem_append_right _ (List.mem_append_left _ (List.mem_of_getElem? (i := 210) rfl))))) rfl
abbrev y_Md_set : MethodName := ⟨"NonceBoxModel", "set", "(IJ)V"⟩
abbrev c_Md_set : ByteArray := prog_7_method_32_code
abbrev w_Md_set : List Cond := .code y_Md_set c_Md_set 5 none :: tb
theorem kc_Md_set : Cond.code y_Md_set c_Md_set 5 none ∈ tb := tb_t (List.mem_append_right _ (List.mem_append_right _ (List.mem_append_right _ (List.mem_append_left _ (List.mem_of_getElem? (i := 214) rfl))))) rfl
abbrev y_Md_copy : MethodName := ⟨"NonceBoxModel", "copy", "(II)V"⟩
abbrev c_Md_copy : ByteArray := prog_7_method_31_code
abbrev w_Md_copy : List Cond := .code y_Md_copy c_Md_copy 4 none :: tb
theorem kc_Md_copy : Cond.code y_Md_copy c_Md_copy 4 none ∈ tb := tb_t (List.mem_append_right _ (List.mem_append_right _ (List.mem_append_right _ (List.mem_append_left _ (List.mem_of_getElem? (i := 219) rfl))))) rfl
abbrev y_Md_swap : MethodName := ⟨"NonceBoxModel", "swap", "(II)V"⟩
abbrev c_Md_swap : ByteArray := prog_7_method_36_code
abbrev w_Md_swap : List Cond := .code y_Md_swap c_Md_swap 6 none :: tb
theorem kc_Md_swap : Cond.code y_Md_swap c_Md_swap 6 none ∈ tb := tb_t (List.mem_append_right _ (List.mem_append_right _ (List.mem_append_right _ (List.mem_append_left _ (List.mem_of_getElem? (i := 223) rfl))))) rfl
abbrev y_Md_ladder : MethodName := ⟨"NonceBoxModel", "ladder", "()V"⟩
abbrev c_Md_ladder : ByteArray := prog_7_method_37_code
abbrev w_Md_ladder : List Cond := .code y_Md_ladder c_Md_ladder 1 none :: tb
theorem kc_Md_ladder : Cond.code y_Md_ladder c_Md_ladder 1 none ∈ tb := tb_t (List.mem_append_right _ (List.mem_append_right _ (List.mem_append_right _ (List.mem_append_left _ (List.mem_of_getElem? (i := 227) rfl))))) rfl
abbrev y_Md_add : MethodName := ⟨"NonceBoxModel", "add", "(III)V"⟩
abbrev c_Md_add : ByteArray := prog_7_method_33_code
abbrev w_Md_add : List Cond := .code y_Md_add c_Md_add 5 none :: tb
theorem kc_Md_add : Cond.code y_Md_add c_Md_add 5 none ∈ tb := tb_t (List.mem_append_right _ (List.mem_append_right _ (List.mem_append_right _ (List.mem_append_left _ (List.mem_of_getElem? (i := 231) rfl))))) rfl
abbrev y_Md_carry : MethodName := ⟨"NonceBoxModel", "carry", "(I)V"⟩
abbrev c_Md_carry : ByteArray := prog_7_method_30_code
abbrev w_Md_carry : List Cond := .code y_Md_carry c_Md_carry 8 none :: tb
theorem kc_Md_carry : Cond.code y_Md_carry c_Md_carry 8 none ∈ tb := tb_t (List.mem_append_right _ (List.mem_append_right _ (List.mem_append_right _ (List.mem_append_left _ (List.mem_of_getElem? (i := 235) rfl))))) rfl
abbrev y_Md_subtract : MethodName := ⟨"NonceBoxModel", "subtract", "(III)V"⟩
abbrev c_Md_subtract : ByteArray := prog_7_method_34_code
abbrev w_Md_subtract : List Cond := .code y_Md_subtract c_Md_subtract 5 none :: tb
theorem kc_Md_subtract : Cond.code y_Md_subtract c_Md_subtract 5 none ∈ tb := tb_t (List.mem_append_right _ (List.mem_append_right _ (List.mem_append_right _ (List.mem_append_right _ (List.mem_of_getElem? (i := 0) rfl))))) rfl
abbrev y_Md_times : MethodName := ⟨"NonceBoxModel", "times", "(III)V"⟩
abbrev c_Md_times : ByteArray := prog_7_method_35_code
abbrev w_Md_times : List Cond := .code y_Md_times c_Md_times 8 none :: tb
theorem kc_Md_times : Cond.code y_Md_times c_Md_times 8 none ∈ tb := tb_t (List.mem_append_right _ (List.mem_append_right _ (List.mem_append_right _ (List.mem_append_right _ (List.mem_of_getElem? (i := 6) rfl))))) rfl
abbrev y_Md_finish : MethodName := ⟨"NonceBoxModel", "finish", "(I)V"⟩
abbrev c_Md_finish : ByteArray := prog_7_method_38_code
abbrev w_Md_finish : List Cond := .code y_Md_finish c_Md_finish 7 none :: tb
theorem kc_Md_finish : Cond.code y_Md_finish c_Md_finish 7 none ∈ tb := tb_t (List.mem_append_right _ (List.mem_append_right _ (List.mem_append_right _ (List.mem_append_right _ (List.mem_of_getElem? (i := 10) rfl))))) rfl
abbrev y_Md_agree : MethodName := ⟨"NonceBoxModel", "agree", "()V"⟩
abbrev c_Md_agree : ByteArray := prog_7_method_42_code
abbrev w_Md_agree : List Cond := .code y_Md_agree c_Md_agree 1 none :: tb
theorem kc_Md_agree : Cond.code y_Md_agree c_Md_agree 1 none ∈ tb := tb_t (List.mem_append_right _ (List.mem_append_right _ (List.mem_append_right _ (List.mem_append_right _ (List.mem_of_getElem? (i := 16) rfl))))) rfl
abbrev y_Md_agreeKey : MethodName := ⟨"NonceBoxModel", "agreeKey", "()V"⟩
abbrev c_Md_agreeKey : ByteArray := prog_7_method_40_code
abbrev w_Md_agreeKey : List Cond := .code y_Md_agreeKey c_Md_agreeKey 2 none :: tb
theorem kc_Md_agreeKey : Cond.code y_Md_agreeKey c_Md_agreeKey 2 none ∈ tb := tb_t (List.mem_append_right _ (List.mem_append_right _ (List.mem_append_right _ (List.mem_append_right _ (List.mem_of_getElem? (i := 20) rfl))))) rfl
abbrev y_Md_seal : MethodName := ⟨"NonceBoxModel", "seal", "()I"⟩
abbrev c_Md_seal : ByteArray := prog_7_method_46_code
abbrev w_Md_seal : List Cond := .code y_Md_seal c_Md_seal 1 (Option.some FieldType.int) :: tb
theorem kc_Md_seal : Cond.code y_Md_seal c_Md_seal 1 (Option.some FieldType.int) ∈ tb := tb_t (List.mem_append_right _ (List.mem_append_right _ (List.mem_append_right _ (List.mem_append_right _ (List.mem_of_getElem? (i := 24) rfl))))) rfl
abbrev y_Md_sealIt : MethodName := ⟨"NonceBoxModel", "sealIt", "()I"⟩
abbrev c_Md_sealIt : ByteArray := prog_7_method_44_code
abbrev w_Md_sealIt : List Cond := .code y_Md_sealIt c_Md_sealIt 2 (Option.some FieldType.int) :: tb
theorem kc_Md_sealIt : Cond.code y_Md_sealIt c_Md_sealIt 2 (Option.some FieldType.int) ∈ tb := tb_t (List.mem_append_right _ (List.mem_append_right _ (List.mem_append_right _ (List.mem_append_right _ (List.mem_of_getElem? (i := 28) rfl))))) rfl
abbrev y_Md_tagKey : MethodName := ⟨"NonceBoxModel", "tagKey", "()V"⟩
abbrev c_Md_tagKey : ByteArray := prog_7_method_43_code
abbrev w_Md_tagKey : List Cond := .code y_Md_tagKey c_Md_tagKey 2 none :: tb
theorem kc_Md_tagKey : Cond.code y_Md_tagKey c_Md_tagKey 2 none ∈ tb := tb_t (List.mem_append_right _ (List.mem_append_right _ (List.mem_append_right _ (List.mem_append_right _ (List.mem_of_getElem? (i := 32) rfl))))) rfl
abbrev y_Md_open : MethodName := ⟨"NonceBoxModel", "open", "()I"⟩
abbrev c_Md_open : ByteArray := prog_7_method_47_code
abbrev w_Md_open : List Cond := .code y_Md_open c_Md_open 1 (Option.some FieldType.int) :: tb
theorem kc_Md_open : Cond.code y_Md_open c_Md_open 1 (Option.some FieldType.int) ∈ tb := tb_t (List.mem_append_right _ (List.mem_append_right _ (List.mem_append_right _ (List.mem_append_right _ (List.mem_of_getElem? (i := 36) rfl))))) rfl
abbrev y_Md_openIt : MethodName := ⟨"NonceBoxModel", "openIt", "()I"⟩
abbrev c_Md_openIt : ByteArray := prog_7_method_45_code
abbrev w_Md_openIt : List Cond := .code y_Md_openIt c_Md_openIt 4 (Option.some FieldType.int) :: tb
theorem kc_Md_openIt : Cond.code y_Md_openIt c_Md_openIt 4 (Option.some FieldType.int) ∈ tb := tb_t (List.mem_append_right _ (List.mem_append_right _ (List.mem_append_right _ (List.mem_append_right _ (List.mem_of_getElem? (i := 40) rfl))))) rfl
abbrev y_Md_box : MethodName := ⟨"NonceBoxModel", "box", "()I"⟩
abbrev c_Md_box : ByteArray := prog_7_method_48_code
abbrev w_Md_box : List Cond := .code y_Md_box c_Md_box 1 (Option.some FieldType.int) :: tb
theorem kc_Md_box : Cond.code y_Md_box c_Md_box 1 (Option.some FieldType.int) ∈ tb := tb_t (List.mem_append_right _ (List.mem_append_right _ (List.mem_append_right _ (List.mem_append_right _ (List.mem_of_getElem? (i := 44) rfl))))) rfl
abbrev y_Md_unbox : MethodName := ⟨"NonceBoxModel", "unbox", "()I"⟩
abbrev c_Md_unbox : ByteArray := prog_7_method_49_code
abbrev w_Md_unbox : List Cond := .code y_Md_unbox c_Md_unbox 1 (Option.some FieldType.int) :: tb
theorem kc_Md_unbox : Cond.code y_Md_unbox c_Md_unbox 1 (Option.some FieldType.int) ∈ tb := tb_t (List.mem_append_right _ (List.mem_append_right _ (List.mem_append_right _ (List.mem_append_right _ (List.mem_of_getElem? (i := 48) rfl))))) rfl
theorem ki_Lw : Cond.initialized "NonceBoxLaw" ∈ tb := tb_t (List.mem_append_left _ (List.mem_of_getElem? (i := 0) rfl)) rfl
theorem ki_NB : Cond.initialized "NonceBox" ∈ tb := tb_t (List.mem_append_left _ (List.mem_of_getElem? (i := 1) rfl)) rfl
theorem ki_Mx : Cond.initialized "NonceBox$Mixer" ∈ tb := tb_t (List.mem_append_left _ (List.mem_of_getElem? (i := 2) rfl)) rfl
theorem ki_Tg : Cond.initialized "NonceBox$Tagger" ∈ tb := tb_t (List.mem_append_left _ (List.mem_of_getElem? (i := 3) rfl)) rfl
theorem ki_Fd : Cond.initialized "NonceBox$Field" ∈ tb := tb_t (List.mem_append_left _ (List.mem_of_getElem? (i := 4) rfl)) rfl
theorem ki_Cv : Cond.initialized "NonceBox$Curve" ∈ tb := tb_t (List.mem_append_left _ (List.mem_of_getElem? (i := 5) rfl)) rfl
theorem ki_Md : Cond.initialized "NonceBoxModel" ∈ tb := tb_t (List.mem_append_left _ (List.mem_of_getElem? (i := 6) rfl)) rfl
theorem ki_Sy : Cond.initialized "java/lang/System" ∈ tb := tb_t (List.mem_append_left _ (List.mem_of_getElem? (i := 7) rfl)) rfl
theorem ki_Ar : Cond.initialized "java/util/Arrays" ∈ tb := tb_t (List.mem_append_left _ (List.mem_of_getElem? (i := 8) rfl)) rfl
theorem ki_Ma : Cond.initialized "java/lang/Math" ∈ tb := tb_t (List.mem_append_left _ (List.mem_of_getElem? (i := 18) rfl)) rfl
theorem kC_Lw_8 : Cond.classLink "NonceBoxLaw" 8 "NonceBox" ∈ tb := tb_t (List.mem_append_left _ (List.mem_of_getElem? (i := 23) rfl)) rfl
theorem kI_NB : Cond.instantiable "NonceBox" 13 ∈ tb := tb_t (List.mem_append_left _ (List.mem_of_getElem? (i := 24) rfl)) rfl
theorem kl_Lw_26 : Cond.methodLink "NonceBoxLaw" 26 ⟨"NonceBox", "<init>", "()V"⟩ ∈ tb := tb_t (List.mem_append_left _ (List.mem_of_getElem? (i := 25) rfl)) rfl
theorem km_NB_init : Cond.instanceMethod ⟨"NonceBox", "<init>", "()V"⟩ ∈ tb := tb_t (List.mem_append_left _ (List.mem_of_getElem? (i := 26) rfl)) rfl
theorem kl_NB_1 : Cond.methodLink "NonceBox" 1 ⟨"java/lang/Object", "<init>", "()V"⟩ ∈ tb := tb_t (List.mem_append_left _ (List.mem_of_getElem? (i := 28) rfl)) rfl
theorem km_Ob_init : Cond.instanceMethod ⟨"java/lang/Object", "<init>", "()V"⟩ ∈ tb := tb_t (List.mem_append_left _ (List.mem_of_getElem? (i := 29) rfl)) rfl
theorem kC_NB_32 : Cond.classLink "NonceBox" 32 "NonceBox$Mixer" ∈ tb := tb_t (List.mem_append_left _ (List.mem_of_getElem? (i := 31) rfl)) rfl
theorem kI_Mx : Cond.instantiable "NonceBox$Mixer" 5 ∈ tb := tb_t (List.mem_append_left _ (List.mem_of_getElem? (i := 32) rfl)) rfl
theorem km_Mx_init : Cond.instanceMethod ⟨"NonceBox$Mixer", "<init>", "()V"⟩ ∈ tb := tb_t (List.mem_append_left _ (List.mem_of_getElem? (i := 34) rfl)) rfl
theorem kl_Mx_3 : Cond.methodLink "NonceBox$Mixer" 3 ⟨"java/lang/Object", "<init>", "()V"⟩ ∈ tb := tb_t (List.mem_append_left _ (List.mem_of_getElem? (i := 36) rfl)) rfl
theorem kf_Mx_11 : Cond.fieldLink "NonceBox$Mixer" 11 "NonceBox$Mixer" "laid" "[I" ∈ tb := tb_t (List.mem_append_left _ (List.mem_of_getElem? (i := 37) rfl)) rfl
theorem kf_Mx_15 : Cond.fieldLink "NonceBox$Mixer" 15 "NonceBox$Mixer" "words" "[I" ∈ tb := tb_t (List.mem_append_left _ (List.mem_of_getElem? (i := 38) rfl)) rfl
theorem kf_Mx_18 : Cond.fieldLink "NonceBox$Mixer" 18 "NonceBox$Mixer" "streamKey" "[B" ∈ tb := tb_t (List.mem_append_left _ (List.mem_of_getElem? (i := 39) rfl)) rfl
theorem kf_Mx_22 : Cond.fieldLink "NonceBox$Mixer" 22 "NonceBox$Mixer" "place" "[B" ∈ tb := tb_t (List.mem_append_left _ (List.mem_of_getElem? (i := 40) rfl)) rfl
theorem kf_Mx_25 : Cond.fieldLink "NonceBox$Mixer" 25 "NonceBox$Mixer" "stream" "[B" ∈ tb := tb_t (List.mem_append_left _ (List.mem_of_getElem? (i := 41) rfl)) rfl
theorem ka_byte : Cond.arrayClass .byte ∈ tb := tb_t (List.mem_append_left _ (List.mem_of_getElem? (i := 53) rfl)) rfl
theorem ka_int : Cond.arrayClass .int ∈ tb := tb_t (List.mem_append_left _ (List.mem_of_getElem? (i := 54) rfl)) rfl
theorem kC_NB_39 : Cond.classLink "NonceBox" 39 "NonceBox$Tagger" ∈ tb := tb_t (List.mem_append_left _ (List.mem_of_getElem? (i := 55) rfl)) rfl
theorem kI_Tg : Cond.instantiable "NonceBox$Tagger" 4 ∈ tb := tb_t (List.mem_append_left _ (List.mem_of_getElem? (i := 56) rfl)) rfl
theorem km_Tg_init : Cond.instanceMethod ⟨"NonceBox$Tagger", "<init>", "()V"⟩ ∈ tb := tb_t (List.mem_append_left _ (List.mem_of_getElem? (i := 58) rfl)) rfl
theorem kl_Tg_3 : Cond.methodLink "NonceBox$Tagger" 3 ⟨"java/lang/Object", "<init>", "()V"⟩ ∈ tb := tb_t (List.mem_append_left _ (List.mem_of_getElem? (i := 60) rfl)) rfl
theorem kC_Tg_9 : Cond.classLink "NonceBox$Tagger" 9 "NonceBox$Field" ∈ tb := tb_t (List.mem_append_left _ (List.mem_of_getElem? (i := 61) rfl)) rfl
theorem kI_Fd : Cond.instantiable "NonceBox$Field" 5 ∈ tb := tb_t (List.mem_append_left _ (List.mem_of_getElem? (i := 62) rfl)) rfl
theorem ko_Tg_11 : Cond.constantLong "NonceBox$Tagger" 11 5 ∈ tb := tb_t (List.mem_append_left _ (List.mem_of_getElem? (i := 63) rfl)) rfl
theorem kl_Tg_13 : Cond.methodLink "NonceBox$Tagger" 13 ⟨"NonceBox$Field", "<init>", "(IJ)V"⟩ ∈ tb := tb_t (List.mem_append_left _ (List.mem_of_getElem? (i := 64) rfl)) rfl
theorem km_Fd_init : Cond.instanceMethod ⟨"NonceBox$Field", "<init>", "(IJ)V"⟩ ∈ tb := tb_t (List.mem_append_left _ (List.mem_of_getElem? (i := 65) rfl)) rfl
theorem kl_Fd_3 : Cond.methodLink "NonceBox$Field" 3 ⟨"java/lang/Object", "<init>", "()V"⟩ ∈ tb := tb_t (List.mem_append_left _ (List.mem_of_getElem? (i := 67) rfl)) rfl
theorem kf_Fd_9 : Cond.fieldLink "NonceBox$Field" 9 "NonceBox$Field" "limbs" "I" ∈ tb := tb_t (List.mem_append_left _ (List.mem_of_getElem? (i := 68) rfl)) rfl
theorem kf_Fd_13 : Cond.fieldLink "NonceBox$Field" 13 "NonceBox$Field" "topBits" "I" ∈ tb := tb_t (List.mem_append_left _ (List.mem_of_getElem? (i := 69) rfl)) rfl
theorem kf_Fd_16 : Cond.fieldLink "NonceBox$Field" 16 "NonceBox$Field" "low" "J" ∈ tb := tb_t (List.mem_append_left _ (List.mem_of_getElem? (i := 70) rfl)) rfl
theorem kf_Fd_20 : Cond.fieldLink "NonceBox$Field" 20 "NonceBox$Field" "fold" "J" ∈ tb := tb_t (List.mem_append_left _ (List.mem_of_getElem? (i := 71) rfl)) rfl
theorem kf_Fd_23 : Cond.fieldLink "NonceBox$Field" 23 "NonceBox$Field" "wide" "[J" ∈ tb := tb_t (List.mem_append_left _ (List.mem_of_getElem? (i := 72) rfl)) rfl
theorem ka_long : Cond.arrayClass .long ∈ tb := tb_t (List.mem_append_left _ (List.mem_of_getElem? (i := 84) rfl)) rfl
theorem kl_Tg_22 : Cond.methodLink "NonceBox$Tagger" 22 ⟨"NonceBox$Field", "newRow", "()[J"⟩ ∈ tb := tb_t (List.mem_append_left _ (List.mem_of_getElem? (i := 85) rfl)) rfl
theorem km_Fd_newRow : Cond.instanceMethod ⟨"NonceBox$Field", "newRow", "()[J"⟩ ∈ tb := tb_t (List.mem_append_left _ (List.mem_of_getElem? (i := 86) rfl)) rfl
theorem kv_Fd_newRow : Cond.selects "NonceBox$Field" ⟨"NonceBox$Field", "newRow", "()[J"⟩ ⟨"NonceBox$Field", "newRow", "()[J"⟩ ∈ tb := tb_t (List.mem_append_left _ (List.mem_of_getElem? (i := 87) rfl)) rfl
theorem kf_Tg_16 : Cond.fieldLink "NonceBox$Tagger" 16 "NonceBox$Tagger" "field" "LNonceBox$Field;" ∈ tb := tb_t (List.mem_append_left _ (List.mem_of_getElem? (i := 89) rfl)) rfl
theorem kf_Tg_26 : Cond.fieldLink "NonceBox$Tagger" 26 "NonceBox$Tagger" "sum" "[J" ∈ tb := tb_t (List.mem_append_left _ (List.mem_of_getElem? (i := 90) rfl)) rfl
theorem kf_Tg_30 : Cond.fieldLink "NonceBox$Tagger" 30 "NonceBox$Tagger" "factor" "[J" ∈ tb := tb_t (List.mem_append_left _ (List.mem_of_getElem? (i := 91) rfl)) rfl
theorem kf_Tg_33 : Cond.fieldLink "NonceBox$Tagger" 33 "NonceBox$Tagger" "factorBytes" "[B" ∈ tb := tb_t (List.mem_append_left _ (List.mem_of_getElem? (i := 92) rfl)) rfl
theorem kC_NB_46 : Cond.classLink "NonceBox" 46 "NonceBox$Curve" ∈ tb := tb_t (List.mem_append_left _ (List.mem_of_getElem? (i := 102) rfl)) rfl
theorem kI_Cv : Cond.instantiable "NonceBox$Curve" 14 ∈ tb := tb_t (List.mem_append_left _ (List.mem_of_getElem? (i := 103) rfl)) rfl
theorem km_Cv_init : Cond.instanceMethod ⟨"NonceBox$Curve", "<init>", "()V"⟩ ∈ tb := tb_t (List.mem_append_left _ (List.mem_of_getElem? (i := 105) rfl)) rfl
theorem kl_Cv_3 : Cond.methodLink "NonceBox$Curve" 3 ⟨"java/lang/Object", "<init>", "()V"⟩ ∈ tb := tb_t (List.mem_append_left _ (List.mem_of_getElem? (i := 107) rfl)) rfl
theorem kC_Cv_9 : Cond.classLink "NonceBox$Curve" 9 "NonceBox$Field" ∈ tb := tb_t (List.mem_append_left _ (List.mem_of_getElem? (i := 108) rfl)) rfl
theorem ko_Cv_11 : Cond.constantLong "NonceBox$Curve" 11 19 ∈ tb := tb_t (List.mem_append_left _ (List.mem_of_getElem? (i := 109) rfl)) rfl
theorem kl_Cv_13 : Cond.methodLink "NonceBox$Curve" 13 ⟨"NonceBox$Field", "<init>", "(IJ)V"⟩ ∈ tb := tb_t (List.mem_append_left _ (List.mem_of_getElem? (i := 110) rfl)) rfl
theorem kl_Cv_26 : Cond.methodLink "NonceBox$Curve" 26 ⟨"NonceBox$Field", "newRow", "()[J"⟩ ∈ tb := tb_t (List.mem_append_left _ (List.mem_of_getElem? (i := 111) rfl)) rfl
theorem kf_Cv_16 : Cond.fieldLink "NonceBox$Curve" 16 "NonceBox$Curve" "field" "LNonceBox$Field;" ∈ tb := tb_t (List.mem_append_left _ (List.mem_of_getElem? (i := 112) rfl)) rfl
theorem kf_Cv_22 : Cond.fieldLink "NonceBox$Curve" 22 "NonceBox$Curve" "bytes" "[B" ∈ tb := tb_t (List.mem_append_left _ (List.mem_of_getElem? (i := 113) rfl)) rfl
theorem kf_Cv_30 : Cond.fieldLink "NonceBox$Curve" 30 "NonceBox$Curve" "firstOver" "[J" ∈ tb := tb_t (List.mem_append_left _ (List.mem_of_getElem? (i := 114) rfl)) rfl
theorem kf_Cv_34 : Cond.fieldLink "NonceBox$Curve" 34 "NonceBox$Curve" "firstUnder" "[J" ∈ tb := tb_t (List.mem_append_left _ (List.mem_of_getElem? (i := 115) rfl)) rfl
theorem kf_Cv_37 : Cond.fieldLink "NonceBox$Curve" 37 "NonceBox$Curve" "secondOver" "[J" ∈ tb := tb_t (List.mem_append_left _ (List.mem_of_getElem? (i := 116) rfl)) rfl
theorem kf_Cv_40 : Cond.fieldLink "NonceBox$Curve" 40 "NonceBox$Curve" "secondUnder" "[J" ∈ tb := tb_t (List.mem_append_left _ (List.mem_of_getElem? (i := 117) rfl)) rfl
theorem kf_Cv_43 : Cond.fieldLink "NonceBox$Curve" 43 "NonceBox$Curve" "u" "[J" ∈ tb := tb_t (List.mem_append_left _ (List.mem_of_getElem? (i := 118) rfl)) rfl
theorem kf_Cv_46 : Cond.fieldLink "NonceBox$Curve" 46 "NonceBox$Curve" "e" "[J" ∈ tb := tb_t (List.mem_append_left _ (List.mem_of_getElem? (i := 119) rfl)) rfl
theorem kf_Cv_49 : Cond.fieldLink "NonceBox$Curve" 49 "NonceBox$Curve" "f" "[J" ∈ tb := tb_t (List.mem_append_left _ (List.mem_of_getElem? (i := 120) rfl)) rfl
theorem kf_Cv_52 : Cond.fieldLink "NonceBox$Curve" 52 "NonceBox$Curve" "g" "[J" ∈ tb := tb_t (List.mem_append_left _ (List.mem_of_getElem? (i := 121) rfl)) rfl
theorem kf_Cv_55 : Cond.fieldLink "NonceBox$Curve" 55 "NonceBox$Curve" "h" "[J" ∈ tb := tb_t (List.mem_append_left _ (List.mem_of_getElem? (i := 122) rfl)) rfl
theorem kf_Cv_58 : Cond.fieldLink "NonceBox$Curve" 58 "NonceBox$Curve" "q" "[J" ∈ tb := tb_t (List.mem_append_left _ (List.mem_of_getElem? (i := 123) rfl)) rfl
theorem kf_Cv_61 : Cond.fieldLink "NonceBox$Curve" 61 "NonceBox$Curve" "\u0072" "[J" ∈ tb := tb_t (List.mem_append_left _ (List.mem_of_getElem? (i := 124) rfl)) rfl
theorem kf_Cv_64 : Cond.fieldLink "NonceBox$Curve" 64 "NonceBox$Curve" "t" "[J" ∈ tb := tb_t (List.mem_append_left _ (List.mem_of_getElem? (i := 125) rfl)) rfl
theorem kf_NB_9 : Cond.fieldLink "NonceBox" 9 "NonceBox" "key" "[B" ∈ tb := tb_t (List.mem_append_left _ (List.mem_of_getElem? (i := 155) rfl)) rfl
theorem kf_NB_13 : Cond.fieldLink "NonceBox" 13 "NonceBox" "nonce" "[B" ∈ tb := tb_t (List.mem_append_left _ (List.mem_of_getElem? (i := 156) rfl)) rfl
theorem kf_NB_16 : Cond.fieldLink "NonceBox" 16 "NonceBox" "point" "[B" ∈ tb := tb_t (List.mem_append_left _ (List.mem_of_getElem? (i := 157) rfl)) rfl
theorem kf_NB_19 : Cond.fieldLink "NonceBox" 19 "NonceBox" "text" "[B" ∈ tb := tb_t (List.mem_append_left _ (List.mem_of_getElem? (i := 158) rfl)) rfl
theorem kf_NB_22 : Cond.fieldLink "NonceBox" 22 "NonceBox" "out" "[B" ∈ tb := tb_t (List.mem_append_left _ (List.mem_of_getElem? (i := 159) rfl)) rfl
theorem kf_NB_25 : Cond.fieldLink "NonceBox" 25 "NonceBox" "textLength" "I" ∈ tb := tb_t (List.mem_append_left _ (List.mem_of_getElem? (i := 160) rfl)) rfl
theorem kf_NB_29 : Cond.fieldLink "NonceBox" 29 "NonceBox" "outLength" "I" ∈ tb := tb_t (List.mem_append_left _ (List.mem_of_getElem? (i := 161) rfl)) rfl
theorem kf_NB_35 : Cond.fieldLink "NonceBox" 35 "NonceBox" "mixer" "LNonceBox$Mixer;" ∈ tb := tb_t (List.mem_append_left _ (List.mem_of_getElem? (i := 162) rfl)) rfl
theorem kf_NB_42 : Cond.fieldLink "NonceBox" 42 "NonceBox" "tagger" "LNonceBox$Tagger;" ∈ tb := tb_t (List.mem_append_left _ (List.mem_of_getElem? (i := 163) rfl)) rfl
theorem kf_NB_49 : Cond.fieldLink "NonceBox" 49 "NonceBox" "curve" "LNonceBox$Curve;" ∈ tb := tb_t (List.mem_append_left _ (List.mem_of_getElem? (i := 164) rfl)) rfl
theorem kf_NB_53 : Cond.fieldLink "NonceBox" 53 "NonceBox" "agreedKey" "[B" ∈ tb := tb_t (List.mem_append_left _ (List.mem_of_getElem? (i := 165) rfl)) rfl
theorem kf_NB_56 : Cond.fieldLink "NonceBox" 56 "NonceBox" "zeros" "[B" ∈ tb := tb_t (List.mem_append_left _ (List.mem_of_getElem? (i := 166) rfl)) rfl
theorem kf_NB_59 : Cond.fieldLink "NonceBox" 59 "NonceBox" "work" "[B" ∈ tb := tb_t (List.mem_append_left _ (List.mem_of_getElem? (i := 167) rfl)) rfl
theorem kl_Lw_32 : Cond.methodLink "NonceBoxLaw" 32 ⟨"NonceBox", "put", "(IIJ)Z"⟩ ∈ tb := tb_t (List.mem_append_left _ (List.mem_of_getElem? (i := 195) rfl)) rfl
theorem km_NB_put : Cond.instanceMethod ⟨"NonceBox", "put", "(IIJ)Z"⟩ ∈ tb := tb_t (List.mem_append_left _ (List.mem_of_getElem? (i := 196) rfl)) rfl
theorem kv_NB_put : Cond.selects "NonceBox" ⟨"NonceBox", "put", "(IIJ)Z"⟩ ⟨"NonceBox", "put", "(IIJ)Z"⟩ ∈ tb := tb_t (List.mem_append_left _ (List.mem_of_getElem? (i := 197) rfl)) rfl
theorem kl_NB_62 : Cond.methodLink "NonceBox" 62 ⟨"NonceBox", "rowOf", "(I)[B"⟩ ∈ tb := tb_t (List.mem_append_left _ (List.mem_of_getElem? (i := 199) rfl)) rfl
theorem km_NB_rowOf : Cond.instanceMethod ⟨"NonceBox", "rowOf", "(I)[B"⟩ ∈ tb := tb_t (List.mem_append_left _ (List.mem_of_getElem? (i := 201) rfl)) rfl
theorem kl_NB_66 : Cond.methodLink "NonceBox" 66 ⟨"NonceBox", "hasRoom", "([BI)Z"⟩ ∈ tb := tb_t (List.mem_append_left _ (List.mem_of_getElem? (i := 203) rfl)) rfl
theorem ks_NB_hasRoom : Cond.static ⟨"NonceBox", "hasRoom", "([BI)Z"⟩ ∈ tb := tb_t (List.mem_append_left _ (List.mem_of_getElem? (i := 204) rfl)) rfl
theorem kl_Lw_37 : Cond.methodLink "NonceBoxLaw" 37 ⟨"NonceBox", "length", "(I)Z"⟩ ∈ tb := tb_t (List.mem_append_left _ (List.mem_of_getElem? (i := 206) rfl)) rfl
theorem km_NB_length : Cond.instanceMethod ⟨"NonceBox", "length", "(I)Z"⟩ ∈ tb := tb_t (List.mem_append_left _ (List.mem_of_getElem? (i := 207) rfl)) rfl
theorem kv_NB_length : Cond.selects "NonceBox" ⟨"NonceBox", "length", "(I)Z"⟩ ⟨"NonceBox", "length", "(I)Z"⟩ ∈ tb := tb_t (List.mem_append_left _ (List.mem_of_getElem? (i := 208) rfl)) rfl
theorem kl_Lw_42 : Cond.methodLink "NonceBoxLaw" 42 ⟨"NonceBox", "word", "(II)J"⟩ ∈ tb := tb_t (List.mem_append_left _ (List.mem_of_getElem? (i := 210) rfl)) rfl
theorem km_NB_word : Cond.instanceMethod ⟨"NonceBox", "word", "(II)J"⟩ ∈ tb := tb_t (List.mem_append_left _ (List.mem_of_getElem? (i := 211) rfl)) rfl
theorem kv_NB_word : Cond.selects "NonceBox" ⟨"NonceBox", "word", "(II)J"⟩ ⟨"NonceBox", "word", "(II)J"⟩ ∈ tb := tb_t (List.mem_append_left _ (List.mem_of_getElem? (i := 212) rfl)) rfl
theorem kl_Lw_47 : Cond.methodLink "NonceBoxLaw" 47 ⟨"NonceBox", "size", "(I)I"⟩ ∈ tb := tb_t (List.mem_append_left _ (List.mem_of_getElem? (i := 214) rfl)) rfl
theorem km_NB_size : Cond.instanceMethod ⟨"NonceBox", "size", "(I)I"⟩ ∈ tb := tb_t (List.mem_append_left _ (List.mem_of_getElem? (i := 215) rfl)) rfl
theorem kv_NB_size : Cond.selects "NonceBox" ⟨"NonceBox", "size", "(I)I"⟩ ⟨"NonceBox", "size", "(I)I"⟩ ∈ tb := tb_t (List.mem_append_left _ (List.mem_of_getElem? (i := 216) rfl)) rfl
theorem kl_Lw_52 : Cond.methodLink "NonceBoxLaw" 52 ⟨"NonceBox", "move", "(I)Z"⟩ ∈ tb := tb_t (List.mem_append_left _ (List.mem_of_getElem? (i := 218) rfl)) rfl
theorem km_NB_move : Cond.instanceMethod ⟨"NonceBox", "move", "(I)Z"⟩ ∈ tb := tb_t (List.mem_append_left _ (List.mem_of_getElem? (i := 219) rfl)) rfl
theorem kv_NB_move : Cond.selects "NonceBox" ⟨"NonceBox", "move", "(I)Z"⟩ ⟨"NonceBox", "move", "(I)Z"⟩ ∈ tb := tb_t (List.mem_append_left _ (List.mem_of_getElem? (i := 220) rfl)) rfl
theorem kl_NB_70 : Cond.methodLink "NonceBox" 70 ⟨"java/lang/System", "arraycopy", "(Ljava/lang/Object;ILjava/lang/Object;II)V"⟩ ∈ tb := tb_t (List.mem_append_left _ (List.mem_of_getElem? (i := 222) rfl)) rfl
theorem ks_Sy_arraycopy : Cond.static ⟨"java/lang/System", "arraycopy", "(Ljava/lang/Object;ILjava/lang/Object;II)V"⟩ ∈ tb := tb_t (List.mem_append_left _ (List.mem_of_getElem? (i := 223) rfl)) rfl
theorem kn_Sy_arraycopy : Cond.native ⟨"java/lang/System", "arraycopy", "(Ljava/lang/Object;ILjava/lang/Object;II)V"⟩ ∈ tb := tb_t (List.mem_append_left _ (List.mem_of_getElem? (i := 224) rfl)) rfl
theorem kl_Lw_56 : Cond.methodLink "NonceBoxLaw" 56 ⟨"NonceBox", "mix", "()V"⟩ ∈ tb := tb_t (List.mem_append_left _ (List.mem_of_getElem? (i := 225) rfl)) rfl
theorem km_NB_mix : Cond.instanceMethod ⟨"NonceBox", "mix", "()V"⟩ ∈ tb := tb_t (List.mem_append_left _ (List.mem_of_getElem? (i := 226) rfl)) rfl
theorem kv_NB_mix : Cond.selects "NonceBox" ⟨"NonceBox", "mix", "()V"⟩ ⟨"NonceBox", "mix", "()V"⟩ ∈ tb := tb_t (List.mem_append_left _ (List.mem_of_getElem? (i := 227) rfl)) rfl
theorem kl_NB_76 : Cond.methodLink "NonceBox" 76 ⟨"NonceBox$Mixer", "mixInto", "([B[B[B)V"⟩ ∈ tb := tb_t (List.mem_append_left _ (List.mem_of_getElem? (i := 229) rfl)) rfl
theorem km_Mx_mixInto : Cond.instanceMethod ⟨"NonceBox$Mixer", "mixInto", "([B[B[B)V"⟩ ∈ tb := tb_t (List.mem_append_left _ (List.mem_of_getElem? (i := 230) rfl)) rfl
theorem kv_Mx_mixInto : Cond.selects "NonceBox$Mixer" ⟨"NonceBox$Mixer", "mixInto", "([B[B[B)V"⟩ ⟨"NonceBox$Mixer", "mixInto", "([B[B[B)V"⟩ ∈ tb := tb_t (List.mem_append_left _ (List.mem_of_getElem? (i := 231) rfl)) rfl
theorem kl_Mx_28 : Cond.methodLink "NonceBox$Mixer" 28 ⟨"NonceBox$Mixer", "layOut", "([B[B)V"⟩ ∈ tb := tb_t (List.mem_append_left _ (List.mem_of_getElem? (i := 233) rfl)) rfl
theorem km_Mx_layOut : Cond.instanceMethod ⟨"NonceBox$Mixer", "layOut", "([B[B)V"⟩ ∈ tb := tb_t (List.mem_append_left _ (List.mem_of_getElem? (i := 235) rfl)) rfl
theorem ko_Mx_53 : Cond.constant "NonceBox$Mixer" 53 1634760805 ∈ tb := tb_t (List.mem_append_left _ (List.mem_of_getElem? (i := 237) rfl)) rfl
theorem ko_Mx_54 : Cond.constant "NonceBox$Mixer" 54 857760878 ∈ tb := tb_t (List.mem_append_left _ (List.mem_of_getElem? (i := 238) rfl)) rfl
theorem ko_Mx_55 : Cond.constant "NonceBox$Mixer" 55 2036477234 ∈ tb := tb_t (List.mem_append_left _ (List.mem_of_getElem? (i := 239) rfl)) rfl
theorem ko_Mx_56 : Cond.constant "NonceBox$Mixer" 56 1797285236 ∈ tb := tb_t (List.mem_append_right _ (List.mem_append_left _ (List.mem_of_getElem? (i := 0) rfl))) rfl
theorem kl_Mx_57 : Cond.methodLink "NonceBox$Mixer" 57 ⟨"NonceBox$Mixer", "readWord", "([BI)I"⟩ ∈ tb := tb_t (List.mem_append_right _ (List.mem_append_left _ (List.mem_of_getElem? (i := 1) rfl))) rfl
theorem ks_Mx_readWord : Cond.static ⟨"NonceBox$Mixer", "readWord", "([BI)I"⟩ ∈ tb := tb_t (List.mem_append_right _ (List.mem_append_left _ (List.mem_of_getElem? (i := 2) rfl))) rfl
theorem kl_Mx_43 : Cond.methodLink "NonceBox$Mixer" 43 ⟨"java/lang/System", "arraycopy", "(Ljava/lang/Object;ILjava/lang/Object;II)V"⟩ ∈ tb := tb_t (List.mem_append_right _ (List.mem_append_left _ (List.mem_of_getElem? (i := 4) rfl))) rfl
theorem kl_Mx_32 : Cond.methodLink "NonceBox$Mixer" 32 ⟨"NonceBox$Mixer", "turnRounds", "()V"⟩ ∈ tb := tb_t (List.mem_append_right _ (List.mem_append_left _ (List.mem_of_getElem? (i := 5) rfl))) rfl
theorem km_Mx_turnRounds : Cond.instanceMethod ⟨"NonceBox$Mixer", "turnRounds", "()V"⟩ ∈ tb := tb_t (List.mem_append_right _ (List.mem_append_left _ (List.mem_of_getElem? (i := 7) rfl))) rfl
theorem kl_Mx_61 : Cond.methodLink "NonceBox$Mixer" 61 ⟨"NonceBox$Mixer", "quarter", "(IIII)V"⟩ ∈ tb := tb_t (List.mem_append_right _ (List.mem_append_left _ (List.mem_of_getElem? (i := 9) rfl))) rfl
theorem km_Mx_quarter : Cond.instanceMethod ⟨"NonceBox$Mixer", "quarter", "(IIII)V"⟩ ∈ tb := tb_t (List.mem_append_right _ (List.mem_append_left _ (List.mem_of_getElem? (i := 11) rfl))) rfl
theorem kl_Mx_65 : Cond.methodLink "NonceBox$Mixer" 65 ⟨"NonceBox$Mixer", "rotated", "(II)I"⟩ ∈ tb := tb_t (List.mem_append_right _ (List.mem_append_left _ (List.mem_of_getElem? (i := 13) rfl))) rfl
theorem ks_Mx_rotated : Cond.static ⟨"NonceBox$Mixer", "rotated", "(II)I"⟩ ∈ tb := tb_t (List.mem_append_right _ (List.mem_append_left _ (List.mem_of_getElem? (i := 14) rfl))) rfl
theorem kl_Mx_35 : Cond.methodLink "NonceBox$Mixer" 35 ⟨"NonceBox$Mixer", "writeWord", "(I[BI)V"⟩ ∈ tb := tb_t (List.mem_append_right _ (List.mem_append_left _ (List.mem_of_getElem? (i := 16) rfl))) rfl
theorem ks_Mx_writeWord : Cond.static ⟨"NonceBox$Mixer", "writeWord", "(I[BI)V"⟩ ∈ tb := tb_t (List.mem_append_right _ (List.mem_append_left _ (List.mem_of_getElem? (i := 17) rfl))) rfl
theorem kl_NB_80 : Cond.methodLink "NonceBox" 80 ⟨"NonceBox", "showWork", "(I)V"⟩ ∈ tb := tb_t (List.mem_append_right _ (List.mem_append_left _ (List.mem_of_getElem? (i := 19) rfl))) rfl
theorem km_NB_showWork : Cond.instanceMethod ⟨"NonceBox", "showWork", "(I)V"⟩ ∈ tb := tb_t (List.mem_append_right _ (List.mem_append_left _ (List.mem_of_getElem? (i := 21) rfl))) rfl
theorem kl_NB_120 : Cond.methodLink "NonceBox" 120 ⟨"java/util/Arrays", "fill", "([BIIB)V"⟩ ∈ tb := tb_t (List.mem_append_right _ (List.mem_append_left _ (List.mem_of_getElem? (i := 23) rfl))) rfl
theorem ks_Ar_fill0 : Cond.static ⟨"java/util/Arrays", "fill", "([BIIB)V"⟩ ∈ tb := tb_t (List.mem_append_right _ (List.mem_append_left _ (List.mem_of_getElem? (i := 24) rfl))) rfl
theorem kl_Ar_13 : Cond.methodLink "java/util/Arrays" 13 ⟨"java/util/Arrays", "rangeCheck", "(III)V"⟩ ∈ tb := tb_t (List.mem_append_right _ (List.mem_append_left _ (List.mem_of_getElem? (i := 26) rfl))) rfl
theorem ks_Ar_rangeCheck : Cond.static ⟨"java/util/Arrays", "rangeCheck", "(III)V"⟩ ∈ tb := tb_t (List.mem_append_right _ (List.mem_append_left _ (List.mem_of_getElem? (i := 27) rfl))) rfl
theorem kl_Ar_47 : Cond.methodLink "java/util/Arrays" 47 ⟨"java/lang/StringBuilder", "<init>", "()V"⟩ ∈ tb := tb_t (List.mem_append_right _ (List.mem_append_left _ (List.mem_of_getElem? (i := 71) rfl))) rfl
theorem kl_Ar_50 : Cond.methodLink "java/util/Arrays" 50 ⟨"java/lang/StringBuilder", "append", "(Ljava/lang/String;)Ljava/lang/StringBuilder;"⟩ ∈ tb := tb_t (List.mem_append_right _ (List.mem_append_left _ (List.mem_of_getElem? (i := 101) rfl))) rfl
theorem ks_Ma_max : Cond.static ⟨"java/lang/Math", "max", "(II)I"⟩ ∈ tb := tb_t (List.mem_append_right _ (List.mem_append_left _ (List.mem_of_getElem? (i := 124) rfl))) rfl
theorem ks_Ar_copyOf : Cond.static ⟨"java/util/Arrays", "copyOf", "([BI)[B"⟩ ∈ tb := tb_t (List.mem_append_right _ (List.mem_append_left _ (List.mem_of_getElem? (i := 132) rfl))) rfl
theorem kl_Ar_310 : Cond.methodLink "java/util/Arrays" 310 ⟨"[B", "clone", "()Ljava/lang/Object;"⟩ ∈ tb := tb_t (List.mem_append_right _ (List.mem_append_left _ (List.mem_of_getElem? (i := 134) rfl))) rfl
theorem kl_Ar_304 : Cond.methodLink "java/util/Arrays" 304 ⟨"java/lang/Math", "min", "(II)I"⟩ ∈ tb := tb_t (List.mem_append_right _ (List.mem_append_left _ (List.mem_of_getElem? (i := 141) rfl))) rfl
theorem ks_Ma_min : Cond.static ⟨"java/lang/Math", "min", "(II)I"⟩ ∈ tb := tb_t (List.mem_append_right _ (List.mem_append_left _ (List.mem_of_getElem? (i := 142) rfl))) rfl
theorem kl_Ar_150 : Cond.methodLink "java/util/Arrays" 150 ⟨"java/lang/System", "arraycopy", "(Ljava/lang/Object;ILjava/lang/Object;II)V"⟩ ∈ tb := tb_t (List.mem_append_right _ (List.mem_append_left _ (List.mem_of_getElem? (i := 144) rfl))) rfl
theorem kl_Ar_54 : Cond.methodLink "java/util/Arrays" 54 ⟨"java/lang/StringBuilder", "append", "(I)Ljava/lang/StringBuilder;"⟩ ∈ tb := tb_t (List.mem_append_right _ (List.mem_append_left _ (List.mem_of_getElem? (i := 219) rfl))) rfl
theorem kl_Ar_61 : Cond.methodLink "java/util/Arrays" 61 ⟨"java/lang/StringBuilder", "toString", "()Ljava/lang/String;"⟩ ∈ tb := tb_t (List.mem_append_right _ (List.mem_append_right _ (List.mem_append_left _ (List.mem_of_getElem? (i := 6) rfl)))) rfl
theorem ks_Ar_copyOfRange : Cond.static ⟨"java/util/Arrays", "copyOfRange", "([BII)[B"⟩ ∈ tb := tb_t (List.mem_append_right _ (List.mem_append_right _ (List.mem_append_left _ (List.mem_of_getElem? (i := 34) rfl)))) rfl
theorem kl_Ar_339 : Cond.methodLink "java/util/Arrays" 339 ⟨"java/util/Arrays", "copyOfRangeByte", "([BII)[B"⟩ ∈ tb := tb_t (List.mem_append_right _ (List.mem_append_right _ (List.mem_append_left _ (List.mem_of_getElem? (i := 36) rfl)))) rfl
theorem ks_Ar_copyOfRangeByte : Cond.static ⟨"java/util/Arrays", "copyOfRangeByte", "([BII)[B"⟩ ∈ tb := tb_t (List.mem_append_right _ (List.mem_append_right _ (List.mem_append_left _ (List.mem_of_getElem? (i := 37) rfl)))) rfl
theorem kl_Ar_343 : Cond.methodLink "java/util/Arrays" 343 ⟨"java/util/Arrays", "checkLength", "(II)V"⟩ ∈ tb := tb_t (List.mem_append_right _ (List.mem_append_right _ (List.mem_append_left _ (List.mem_of_getElem? (i := 39) rfl)))) rfl
theorem ks_Ar_checkLength : Cond.static ⟨"java/util/Arrays", "checkLength", "(II)V"⟩ ∈ tb := tb_t (List.mem_append_right _ (List.mem_append_right _ (List.mem_append_left _ (List.mem_of_getElem? (i := 40) rfl)))) rfl
theorem kl_Ar_65 : Cond.methodLink "java/util/Arrays" 65 ⟨"java/lang/IllegalArgumentException", "<init>", "(Ljava/lang/String;)V"⟩ ∈ tb := tb_t (List.mem_append_right _ (List.mem_append_right _ (List.mem_append_left _ (List.mem_of_getElem? (i := 43) rfl)))) rfl
theorem kl_Lw_60 : Cond.methodLink "NonceBoxLaw" 60 ⟨"NonceBox", "stream", "(I)Z"⟩ ∈ tb := tb_t (List.mem_append_right _ (List.mem_append_right _ (List.mem_append_left _ (List.mem_of_getElem? (i := 92) rfl)))) rfl
theorem km_NB_stream : Cond.instanceMethod ⟨"NonceBox", "stream", "(I)Z"⟩ ∈ tb := tb_t (List.mem_append_right _ (List.mem_append_right _ (List.mem_append_left _ (List.mem_of_getElem? (i := 93) rfl)))) rfl
theorem kv_NB_stream : Cond.selects "NonceBox" ⟨"NonceBox", "stream", "(I)Z"⟩ ⟨"NonceBox", "stream", "(I)Z"⟩ ∈ tb := tb_t (List.mem_append_right _ (List.mem_append_right _ (List.mem_append_left _ (List.mem_of_getElem? (i := 94) rfl)))) rfl
theorem kl_NB_84 : Cond.methodLink "NonceBox" 84 ⟨"NonceBox$Mixer", "streamOf", "([B[BI)[B"⟩ ∈ tb := tb_t (List.mem_append_right _ (List.mem_append_right _ (List.mem_append_left _ (List.mem_of_getElem? (i := 96) rfl)))) rfl
theorem km_Mx_streamOf : Cond.instanceMethod ⟨"NonceBox$Mixer", "streamOf", "([B[BI)[B"⟩ ∈ tb := tb_t (List.mem_append_right _ (List.mem_append_right _ (List.mem_append_left _ (List.mem_of_getElem? (i := 97) rfl)))) rfl
theorem kv_Mx_streamOf : Cond.selects "NonceBox$Mixer" ⟨"NonceBox$Mixer", "streamOf", "([B[BI)[B"⟩ ⟨"NonceBox$Mixer", "streamOf", "([B[BI)[B"⟩ ∈ tb := tb_t (List.mem_append_right _ (List.mem_append_right _ (List.mem_append_left _ (List.mem_of_getElem? (i := 98) rfl)))) rfl
theorem kl_Mx_39 : Cond.methodLink "NonceBox$Mixer" 39 ⟨"NonceBox$Mixer", "mixInto", "([B[B[B)V"⟩ ∈ tb := tb_t (List.mem_append_right _ (List.mem_append_right _ (List.mem_append_left _ (List.mem_of_getElem? (i := 100) rfl)))) rfl
theorem kl_Mx_49 : Cond.methodLink "NonceBox$Mixer" 49 ⟨"NonceBox$Mixer", "coreInto", "(I)V"⟩ ∈ tb := tb_t (List.mem_append_right _ (List.mem_append_right _ (List.mem_append_left _ (List.mem_of_getElem? (i := 101) rfl)))) rfl
theorem km_Mx_coreInto : Cond.instanceMethod ⟨"NonceBox$Mixer", "coreInto", "(I)V"⟩ ∈ tb := tb_t (List.mem_append_right _ (List.mem_append_right _ (List.mem_append_left _ (List.mem_of_getElem? (i := 103) rfl)))) rfl
theorem kl_Lw_64 : Cond.methodLink "NonceBoxLaw" 64 ⟨"NonceBox", "tag", "()V"⟩ ∈ tb := tb_t (List.mem_append_right _ (List.mem_append_right _ (List.mem_append_left _ (List.mem_of_getElem? (i := 105) rfl)))) rfl
theorem km_NB_tag : Cond.instanceMethod ⟨"NonceBox", "tag", "()V"⟩ ∈ tb := tb_t (List.mem_append_right _ (List.mem_append_right _ (List.mem_append_left _ (List.mem_of_getElem? (i := 106) rfl)))) rfl
theorem kv_NB_tag : Cond.selects "NonceBox" ⟨"NonceBox", "tag", "()V"⟩ ⟨"NonceBox", "tag", "()V"⟩ ∈ tb := tb_t (List.mem_append_right _ (List.mem_append_right _ (List.mem_append_left _ (List.mem_of_getElem? (i := 107) rfl)))) rfl
theorem kl_NB_88 : Cond.methodLink "NonceBox" 88 ⟨"NonceBox$Tagger", "tagInto", "([B[BII[B)V"⟩ ∈ tb := tb_t (List.mem_append_right _ (List.mem_append_right _ (List.mem_append_left _ (List.mem_of_getElem? (i := 109) rfl)))) rfl
theorem km_Tg_tagInto : Cond.instanceMethod ⟨"NonceBox$Tagger", "tagInto", "([B[BII[B)V"⟩ ∈ tb := tb_t (List.mem_append_right _ (List.mem_append_right _ (List.mem_append_left _ (List.mem_of_getElem? (i := 110) rfl)))) rfl
theorem kv_Tg_tagInto : Cond.selects "NonceBox$Tagger" ⟨"NonceBox$Tagger", "tagInto", "([B[BII[B)V"⟩ ⟨"NonceBox$Tagger", "tagInto", "([B[BII[B)V"⟩ ∈ tb := tb_t (List.mem_append_right _ (List.mem_append_right _ (List.mem_append_left _ (List.mem_of_getElem? (i := 111) rfl)))) rfl
theorem kl_Tg_37 : Cond.methodLink "NonceBox$Tagger" 37 ⟨"NonceBox$Tagger", "readFactor", "([B)V"⟩ ∈ tb := tb_t (List.mem_append_right _ (List.mem_append_right _ (List.mem_append_left _ (List.mem_of_getElem? (i := 113) rfl)))) rfl
theorem km_Tg_readFactor : Cond.instanceMethod ⟨"NonceBox$Tagger", "readFactor", "([B)V"⟩ ∈ tb := tb_t (List.mem_append_right _ (List.mem_append_right _ (List.mem_append_left _ (List.mem_of_getElem? (i := 115) rfl)))) rfl
theorem kl_Tg_67 : Cond.methodLink "NonceBox$Tagger" 67 ⟨"java/lang/System", "arraycopy", "(Ljava/lang/Object;ILjava/lang/Object;II)V"⟩ ∈ tb := tb_t (List.mem_append_right _ (List.mem_append_right _ (List.mem_append_left _ (List.mem_of_getElem? (i := 117) rfl)))) rfl
theorem kl_Tg_41 : Cond.methodLink "NonceBox$Tagger" 41 ⟨"NonceBox$Field", "setTo", "([JI)V"⟩ ∈ tb := tb_t (List.mem_append_right _ (List.mem_append_right _ (List.mem_append_left _ (List.mem_of_getElem? (i := 118) rfl)))) rfl
theorem km_Fd_setTo : Cond.instanceMethod ⟨"NonceBox$Field", "setTo", "([JI)V"⟩ ∈ tb := tb_t (List.mem_append_right _ (List.mem_append_right _ (List.mem_append_left _ (List.mem_of_getElem? (i := 119) rfl)))) rfl
theorem kv_Fd_setTo : Cond.selects "NonceBox$Field" ⟨"NonceBox$Field", "setTo", "([JI)V"⟩ ⟨"NonceBox$Field", "setTo", "([JI)V"⟩ ∈ tb := tb_t (List.mem_append_right _ (List.mem_append_right _ (List.mem_append_left _ (List.mem_of_getElem? (i := 120) rfl)))) rfl
theorem kl_Fd_27 : Cond.methodLink "NonceBox$Field" 27 ⟨"java/util/Arrays", "fill", "([JJ)V"⟩ ∈ tb := tb_t (List.mem_append_right _ (List.mem_append_right _ (List.mem_append_left _ (List.mem_of_getElem? (i := 122) rfl)))) rfl
theorem ks_Ar_fill1 : Cond.static ⟨"java/util/Arrays", "fill", "([JJ)V"⟩ ∈ tb := tb_t (List.mem_append_right _ (List.mem_append_right _ (List.mem_append_left _ (List.mem_of_getElem? (i := 123) rfl)))) rfl
theorem kl_Tg_59 : Cond.methodLink "NonceBox$Tagger" 59 ⟨"NonceBox$Field", "addBytes", "([BII[J)V"⟩ ∈ tb := tb_t (List.mem_append_right _ (List.mem_append_right _ (List.mem_append_left _ (List.mem_of_getElem? (i := 125) rfl)))) rfl
theorem km_Fd_addBytes : Cond.instanceMethod ⟨"NonceBox$Field", "addBytes", "([BII[J)V"⟩ ∈ tb := tb_t (List.mem_append_right _ (List.mem_append_right _ (List.mem_append_left _ (List.mem_of_getElem? (i := 126) rfl)))) rfl
theorem kv_Fd_addBytes : Cond.selects "NonceBox$Field" ⟨"NonceBox$Field", "addBytes", "([BII[J)V"⟩ ⟨"NonceBox$Field", "addBytes", "([BII[J)V"⟩ ∈ tb := tb_t (List.mem_append_right _ (List.mem_append_right _ (List.mem_append_left _ (List.mem_of_getElem? (i := 127) rfl)))) rfl
theorem kl_Fd_46 : Cond.methodLink "NonceBox$Field" 46 ⟨"NonceBox$Field", "addByte", "(JI[J)V"⟩ ∈ tb := tb_t (List.mem_append_right _ (List.mem_append_right _ (List.mem_append_left _ (List.mem_of_getElem? (i := 129) rfl)))) rfl
theorem km_Fd_addByte : Cond.instanceMethod ⟨"NonceBox$Field", "addByte", "(JI[J)V"⟩ ∈ tb := tb_t (List.mem_append_right _ (List.mem_append_right _ (List.mem_append_left _ (List.mem_of_getElem? (i := 130) rfl)))) rfl
theorem kv_Fd_addByte : Cond.selects "NonceBox$Field" ⟨"NonceBox$Field", "addByte", "(JI[J)V"⟩ ⟨"NonceBox$Field", "addByte", "(JI[J)V"⟩ ∈ tb := tb_t (List.mem_append_right _ (List.mem_append_right _ (List.mem_append_left _ (List.mem_of_getElem? (i := 131) rfl)))) rfl
theorem kl_Fd_43 : Cond.methodLink "NonceBox$Field" 43 ⟨"NonceBox$Field", "carry", "([J)V"⟩ ∈ tb := tb_t (List.mem_append_right _ (List.mem_append_right _ (List.mem_append_left _ (List.mem_of_getElem? (i := 133) rfl)))) rfl
theorem ks_Fd_carry : Cond.static ⟨"NonceBox$Field", "carry", "([J)V"⟩ ∈ tb := tb_t (List.mem_append_right _ (List.mem_append_right _ (List.mem_append_left _ (List.mem_of_getElem? (i := 134) rfl)))) rfl
theorem ko_Fd_50 : Cond.constantLong "NonceBox$Field" 50 67108863 ∈ tb := tb_t (List.mem_append_right _ (List.mem_append_right _ (List.mem_append_left _ (List.mem_of_getElem? (i := 136) rfl)))) rfl
theorem kl_Tg_45 : Cond.methodLink "NonceBox$Tagger" 45 ⟨"java/lang/Math", "min", "(II)I"⟩ ∈ tb := tb_t (List.mem_append_right _ (List.mem_append_right _ (List.mem_append_left _ (List.mem_of_getElem? (i := 137) rfl)))) rfl
theorem kl_Tg_51 : Cond.methodLink "NonceBox$Tagger" 51 ⟨"NonceBox$Tagger", "takePiece", "([BII)V"⟩ ∈ tb := tb_t (List.mem_append_right _ (List.mem_append_right _ (List.mem_append_left _ (List.mem_of_getElem? (i := 138) rfl)))) rfl
theorem km_Tg_takePiece : Cond.instanceMethod ⟨"NonceBox$Tagger", "takePiece", "([BII)V"⟩ ∈ tb := tb_t (List.mem_append_right _ (List.mem_append_right _ (List.mem_append_left _ (List.mem_of_getElem? (i := 140) rfl)))) rfl
theorem kl_Tg_73 : Cond.methodLink "NonceBox$Tagger" 73 ⟨"NonceBox$Field", "addByte", "(JI[J)V"⟩ ∈ tb := tb_t (List.mem_append_right _ (List.mem_append_right _ (List.mem_append_left _ (List.mem_of_getElem? (i := 142) rfl)))) rfl
theorem kl_Tg_77 : Cond.methodLink "NonceBox$Tagger" 77 ⟨"NonceBox$Field", "times", "([J[J[J)V"⟩ ∈ tb := tb_t (List.mem_append_right _ (List.mem_append_right _ (List.mem_append_left _ (List.mem_of_getElem? (i := 143) rfl)))) rfl
theorem km_Fd_times : Cond.instanceMethod ⟨"NonceBox$Field", "times", "([J[J[J)V"⟩ ∈ tb := tb_t (List.mem_append_right _ (List.mem_append_right _ (List.mem_append_left _ (List.mem_of_getElem? (i := 144) rfl)))) rfl
theorem kv_Fd_times : Cond.selects "NonceBox$Field" ⟨"NonceBox$Field", "times", "([J[J[J)V"⟩ ⟨"NonceBox$Field", "times", "([J[J[J)V"⟩ ∈ tb := tb_t (List.mem_append_right _ (List.mem_append_right _ (List.mem_append_left _ (List.mem_of_getElem? (i := 145) rfl)))) rfl
theorem kl_Fd_39 : Cond.methodLink "NonceBox$Field" 39 ⟨"NonceBox$Field", "foldTop", "([J)V"⟩ ∈ tb := tb_t (List.mem_append_right _ (List.mem_append_right _ (List.mem_append_left _ (List.mem_of_getElem? (i := 147) rfl)))) rfl
theorem km_Fd_foldTop : Cond.instanceMethod ⟨"NonceBox$Field", "foldTop", "([J)V"⟩ ∈ tb := tb_t (List.mem_append_right _ (List.mem_append_right _ (List.mem_append_left _ (List.mem_of_getElem? (i := 149) rfl)))) rfl
theorem kl_Tg_55 : Cond.methodLink "NonceBox$Tagger" 55 ⟨"NonceBox$Field", "settle", "([J)V"⟩ ∈ tb := tb_t (List.mem_append_right _ (List.mem_append_right _ (List.mem_append_left _ (List.mem_of_getElem? (i := 151) rfl)))) rfl
theorem km_Fd_settle : Cond.instanceMethod ⟨"NonceBox$Field", "settle", "([J)V"⟩ ∈ tb := tb_t (List.mem_append_right _ (List.mem_append_right _ (List.mem_append_left _ (List.mem_of_getElem? (i := 152) rfl)))) rfl
theorem kv_Fd_settle : Cond.selects "NonceBox$Field" ⟨"NonceBox$Field", "settle", "([J)V"⟩ ⟨"NonceBox$Field", "settle", "([J)V"⟩ ∈ tb := tb_t (List.mem_append_right _ (List.mem_append_right _ (List.mem_append_left _ (List.mem_of_getElem? (i := 153) rfl)))) rfl
theorem kl_Tg_63 : Cond.methodLink "NonceBox$Tagger" 63 ⟨"NonceBox$Field", "writeBytes", "([J[BI)V"⟩ ∈ tb := tb_t (List.mem_append_right _ (List.mem_append_right _ (List.mem_append_left _ (List.mem_of_getElem? (i := 155) rfl)))) rfl
theorem km_Fd_writeBytes : Cond.instanceMethod ⟨"NonceBox$Field", "writeBytes", "([J[BI)V"⟩ ∈ tb := tb_t (List.mem_append_right _ (List.mem_append_right _ (List.mem_append_left _ (List.mem_of_getElem? (i := 156) rfl)))) rfl
theorem kv_Fd_writeBytes : Cond.selects "NonceBox$Field" ⟨"NonceBox$Field", "writeBytes", "([J[BI)V"⟩ ⟨"NonceBox$Field", "writeBytes", "([J[BI)V"⟩ ∈ tb := tb_t (List.mem_append_right _ (List.mem_append_right _ (List.mem_append_left _ (List.mem_of_getElem? (i := 157) rfl)))) rfl
theorem kl_Lw_68 : Cond.methodLink "NonceBoxLaw" 68 ⟨"NonceBox", "multiply", "()V"⟩ ∈ tb := tb_t (List.mem_append_right _ (List.mem_append_right _ (List.mem_append_left _ (List.mem_of_getElem? (i := 159) rfl)))) rfl
theorem km_NB_multiply : Cond.instanceMethod ⟨"NonceBox", "multiply", "()V"⟩ ∈ tb := tb_t (List.mem_append_right _ (List.mem_append_right _ (List.mem_append_left _ (List.mem_of_getElem? (i := 160) rfl)))) rfl
theorem kv_NB_multiply : Cond.selects "NonceBox" ⟨"NonceBox", "multiply", "()V"⟩ ⟨"NonceBox", "multiply", "()V"⟩ ∈ tb := tb_t (List.mem_append_right _ (List.mem_append_right _ (List.mem_append_left _ (List.mem_of_getElem? (i := 161) rfl)))) rfl
theorem kl_NB_92 : Cond.methodLink "NonceBox" 92 ⟨"NonceBox$Curve", "multipleInto", "([B[B[B)V"⟩ ∈ tb := tb_t (List.mem_append_right _ (List.mem_append_right _ (List.mem_append_left _ (List.mem_of_getElem? (i := 163) rfl)))) rfl
theorem km_Cv_multipleInto : Cond.instanceMethod ⟨"NonceBox$Curve", "multipleInto", "([B[B[B)V"⟩ ∈ tb := tb_t (List.mem_append_right _ (List.mem_append_right _ (List.mem_append_left _ (List.mem_of_getElem? (i := 164) rfl)))) rfl
theorem kv_Cv_multipleInto : Cond.selects "NonceBox$Curve" ⟨"NonceBox$Curve", "multipleInto", "([B[B[B)V"⟩ ⟨"NonceBox$Curve", "multipleInto", "([B[B[B)V"⟩ ∈ tb := tb_t (List.mem_append_right _ (List.mem_append_right _ (List.mem_append_left _ (List.mem_of_getElem? (i := 165) rfl)))) rfl
theorem kl_Cv_67 : Cond.methodLink "NonceBox$Curve" 67 ⟨"NonceBox$Curve", "begin", "([B)V"⟩ ∈ tb := tb_t (List.mem_append_right _ (List.mem_append_right _ (List.mem_append_left _ (List.mem_of_getElem? (i := 167) rfl)))) rfl
theorem km_Cv_begin : Cond.instanceMethod ⟨"NonceBox$Curve", "begin", "([B)V"⟩ ∈ tb := tb_t (List.mem_append_right _ (List.mem_append_right _ (List.mem_append_left _ (List.mem_of_getElem? (i := 169) rfl)))) rfl
theorem kl_Cv_94 : Cond.methodLink "NonceBox$Curve" 94 ⟨"java/lang/System", "arraycopy", "(Ljava/lang/Object;ILjava/lang/Object;II)V"⟩ ∈ tb := tb_t (List.mem_append_right _ (List.mem_append_right _ (List.mem_append_left _ (List.mem_of_getElem? (i := 171) rfl)))) rfl
theorem kl_Cv_100 : Cond.methodLink "NonceBox$Curve" 100 ⟨"NonceBox$Field", "setTo", "([JI)V"⟩ ∈ tb := tb_t (List.mem_append_right _ (List.mem_append_right _ (List.mem_append_left _ (List.mem_of_getElem? (i := 172) rfl)))) rfl
theorem kl_Cv_104 : Cond.methodLink "NonceBox$Curve" 104 ⟨"NonceBox$Field", "addBytes", "([BII[J)V"⟩ ∈ tb := tb_t (List.mem_append_right _ (List.mem_append_right _ (List.mem_append_left _ (List.mem_of_getElem? (i := 173) rfl)))) rfl
theorem kl_Cv_108 : Cond.methodLink "NonceBox$Curve" 108 ⟨"NonceBox$Field", "copy", "([J[J)V"⟩ ∈ tb := tb_t (List.mem_append_right _ (List.mem_append_right _ (List.mem_append_left _ (List.mem_of_getElem? (i := 174) rfl)))) rfl
theorem km_Fd_copy : Cond.instanceMethod ⟨"NonceBox$Field", "copy", "([J[J)V"⟩ ∈ tb := tb_t (List.mem_append_right _ (List.mem_append_right _ (List.mem_append_left _ (List.mem_of_getElem? (i := 175) rfl)))) rfl
theorem kv_Fd_copy : Cond.selects "NonceBox$Field" ⟨"NonceBox$Field", "copy", "([J[J)V"⟩ ⟨"NonceBox$Field", "copy", "([J[J)V"⟩ ∈ tb := tb_t (List.mem_append_right _ (List.mem_append_right _ (List.mem_append_left _ (List.mem_of_getElem? (i := 176) rfl)))) rfl
theorem kl_Fd_33 : Cond.methodLink "NonceBox$Field" 33 ⟨"java/lang/System", "arraycopy", "(Ljava/lang/Object;ILjava/lang/Object;II)V"⟩ ∈ tb := tb_t (List.mem_append_right _ (List.mem_append_right _ (List.mem_append_left _ (List.mem_of_getElem? (i := 178) rfl)))) rfl
theorem kl_Cv_71 : Cond.methodLink "NonceBox$Curve" 71 ⟨"NonceBox$Curve", "readKey", "([B)V"⟩ ∈ tb := tb_t (List.mem_append_right _ (List.mem_append_right _ (List.mem_append_left _ (List.mem_of_getElem? (i := 179) rfl)))) rfl
theorem km_Cv_readKey : Cond.instanceMethod ⟨"NonceBox$Curve", "readKey", "([B)V"⟩ ∈ tb := tb_t (List.mem_append_right _ (List.mem_append_right _ (List.mem_append_left _ (List.mem_of_getElem? (i := 181) rfl)))) rfl
theorem kl_Cv_74 : Cond.methodLink "NonceBox$Curve" 74 ⟨"NonceBox$Curve", "step", "([J[J[J[J)V"⟩ ∈ tb := tb_t (List.mem_append_right _ (List.mem_append_right _ (List.mem_append_left _ (List.mem_of_getElem? (i := 183) rfl)))) rfl
theorem km_Cv_step : Cond.instanceMethod ⟨"NonceBox$Curve", "step", "([J[J[J[J)V"⟩ ∈ tb := tb_t (List.mem_append_right _ (List.mem_append_right _ (List.mem_append_left _ (List.mem_of_getElem? (i := 185) rfl)))) rfl
theorem kl_Cv_111 : Cond.methodLink "NonceBox$Curve" 111 ⟨"NonceBox$Field", "plus", "([J[J[J)V"⟩ ∈ tb := tb_t (List.mem_append_right _ (List.mem_append_right _ (List.mem_append_left _ (List.mem_of_getElem? (i := 187) rfl)))) rfl
theorem km_Fd_plus : Cond.instanceMethod ⟨"NonceBox$Field", "plus", "([J[J[J)V"⟩ ∈ tb := tb_t (List.mem_append_right _ (List.mem_append_right _ (List.mem_append_left _ (List.mem_of_getElem? (i := 188) rfl)))) rfl
theorem kv_Fd_plus : Cond.selects "NonceBox$Field" ⟨"NonceBox$Field", "plus", "([J[J[J)V"⟩ ⟨"NonceBox$Field", "plus", "([J[J[J)V"⟩ ∈ tb := tb_t (List.mem_append_right _ (List.mem_append_right _ (List.mem_append_left _ (List.mem_of_getElem? (i := 189) rfl)))) rfl
theorem kl_Cv_114 : Cond.methodLink "NonceBox$Curve" 114 ⟨"NonceBox$Field", "minus", "([J[J[J)V"⟩ ∈ tb := tb_t (List.mem_append_right _ (List.mem_append_right _ (List.mem_append_left _ (List.mem_of_getElem? (i := 191) rfl)))) rfl
theorem km_Fd_minus : Cond.instanceMethod ⟨"NonceBox$Field", "minus", "([J[J[J)V"⟩ ∈ tb := tb_t (List.mem_append_right _ (List.mem_append_right _ (List.mem_append_left _ (List.mem_of_getElem? (i := 192) rfl)))) rfl
theorem kv_Fd_minus : Cond.selects "NonceBox$Field" ⟨"NonceBox$Field", "minus", "([J[J[J)V"⟩ ⟨"NonceBox$Field", "minus", "([J[J[J)V"⟩ ∈ tb := tb_t (List.mem_append_right _ (List.mem_append_right _ (List.mem_append_left _ (List.mem_of_getElem? (i := 193) rfl)))) rfl
theorem kl_Cv_82 : Cond.methodLink "NonceBox$Curve" 82 ⟨"NonceBox$Field", "times", "([J[J[J)V"⟩ ∈ tb := tb_t (List.mem_append_right _ (List.mem_append_right _ (List.mem_append_left _ (List.mem_of_getElem? (i := 195) rfl)))) rfl
theorem ko_Cv_117 : Cond.constant "NonceBox$Curve" 117 121665 ∈ tb := tb_t (List.mem_append_right _ (List.mem_append_right _ (List.mem_append_left _ (List.mem_of_getElem? (i := 196) rfl)))) rfl
theorem kl_Cv_118 : Cond.methodLink "NonceBox$Curve" 118 ⟨"NonceBox$Field", "scale", "([JI[J)V"⟩ ∈ tb := tb_t (List.mem_append_right _ (List.mem_append_right _ (List.mem_append_left _ (List.mem_of_getElem? (i := 197) rfl)))) rfl
theorem km_Fd_scale : Cond.instanceMethod ⟨"NonceBox$Field", "scale", "([JI[J)V"⟩ ∈ tb := tb_t (List.mem_append_right _ (List.mem_append_right _ (List.mem_append_left _ (List.mem_of_getElem? (i := 198) rfl)))) rfl
theorem kv_Fd_scale : Cond.selects "NonceBox$Field" ⟨"NonceBox$Field", "scale", "([JI[J)V"⟩ ⟨"NonceBox$Field", "scale", "([JI[J)V"⟩ ∈ tb := tb_t (List.mem_append_right _ (List.mem_append_right _ (List.mem_append_left _ (List.mem_of_getElem? (i := 199) rfl)))) rfl
theorem kl_Cv_78 : Cond.methodLink "NonceBox$Curve" 78 ⟨"NonceBox$Curve", "invert", "([J[J)V"⟩ ∈ tb := tb_t (List.mem_append_right _ (List.mem_append_right _ (List.mem_append_left _ (List.mem_of_getElem? (i := 201) rfl)))) rfl
theorem km_Cv_invert : Cond.instanceMethod ⟨"NonceBox$Curve", "invert", "([J[J)V"⟩ ∈ tb := tb_t (List.mem_append_right _ (List.mem_append_right _ (List.mem_append_left _ (List.mem_of_getElem? (i := 203) rfl)))) rfl
theorem kl_Cv_86 : Cond.methodLink "NonceBox$Curve" 86 ⟨"NonceBox$Field", "settle", "([J)V"⟩ ∈ tb := tb_t (List.mem_append_right _ (List.mem_append_right _ (List.mem_append_left _ (List.mem_of_getElem? (i := 205) rfl)))) rfl
theorem kl_Cv_90 : Cond.methodLink "NonceBox$Curve" 90 ⟨"NonceBox$Field", "writeBytes", "([J[BI)V"⟩ ∈ tb := tb_t (List.mem_append_right _ (List.mem_append_right _ (List.mem_append_left _ (List.mem_of_getElem? (i := 206) rfl)))) rfl
theorem kl_Lw_72 : Cond.methodLink "NonceBoxLaw" 72 ⟨"NonceBox", "agree", "()V"⟩ ∈ tb := tb_t (List.mem_append_right _ (List.mem_append_right _ (List.mem_append_left _ (List.mem_of_getElem? (i := 207) rfl)))) rfl
theorem km_NB_agree : Cond.instanceMethod ⟨"NonceBox", "agree", "()V"⟩ ∈ tb := tb_t (List.mem_append_right _ (List.mem_append_right _ (List.mem_append_left _ (List.mem_of_getElem? (i := 208) rfl)))) rfl
theorem kv_NB_agree : Cond.selects "NonceBox" ⟨"NonceBox", "agree", "()V"⟩ ⟨"NonceBox", "agree", "()V"⟩ ∈ tb := tb_t (List.mem_append_right _ (List.mem_append_right _ (List.mem_append_left _ (List.mem_of_getElem? (i := 209) rfl)))) rfl
theorem kl_NB_95 : Cond.methodLink "NonceBox" 95 ⟨"NonceBox", "findAgreedKey", "()V"⟩ ∈ tb := tb_t (List.mem_append_right _ (List.mem_append_right _ (List.mem_append_left _ (List.mem_of_getElem? (i := 211) rfl)))) rfl
theorem km_NB_findAgreedKey : Cond.instanceMethod ⟨"NonceBox", "findAgreedKey", "()V"⟩ ∈ tb := tb_t (List.mem_append_right _ (List.mem_append_right _ (List.mem_append_left _ (List.mem_of_getElem? (i := 213) rfl)))) rfl
theorem kl_Lw_76 : Cond.methodLink "NonceBoxLaw" 76 ⟨"NonceBoxLaw", "seal", "(LNonceBox;[J)I"⟩ ∈ tb := tb_t (List.mem_append_right _ (List.mem_append_right _ (List.mem_append_left _ (List.mem_of_getElem? (i := 215) rfl)))) rfl
theorem kl_Lw_7 : Cond.methodLink "NonceBoxLaw" 7 ⟨"NonceBox", "seal", "()I"⟩ ∈ tb := tb_t (List.mem_append_right _ (List.mem_append_right _ (List.mem_append_left _ (List.mem_of_getElem? (i := 219) rfl)))) rfl
theorem km_NB_seal : Cond.instanceMethod ⟨"NonceBox", "seal", "()I"⟩ ∈ tb := tb_t (List.mem_append_right _ (List.mem_append_right _ (List.mem_append_left _ (List.mem_of_getElem? (i := 220) rfl)))) rfl
theorem kv_NB_seal : Cond.selects "NonceBox" ⟨"NonceBox", "seal", "()I"⟩ ⟨"NonceBox", "seal", "()I"⟩ ∈ tb := tb_t (List.mem_append_right _ (List.mem_append_right _ (List.mem_append_left _ (List.mem_of_getElem? (i := 221) rfl)))) rfl
theorem kl_NB_102 : Cond.methodLink "NonceBox" 102 ⟨"java/lang/IllegalArgumentException", "<init>", "(Ljava/lang/String;)V"⟩ ∈ tb := tb_t (List.mem_append_right _ (List.mem_append_right _ (List.mem_append_left _ (List.mem_of_getElem? (i := 225) rfl)))) rfl
theorem kl_NB_105 : Cond.methodLink "NonceBox" 105 ⟨"NonceBox", "sealBy", "([B)V"⟩ ∈ tb := tb_t (List.mem_append_right _ (List.mem_append_right _ (List.mem_append_left _ (List.mem_of_getElem? (i := 226) rfl)))) rfl
theorem km_NB_sealBy : Cond.instanceMethod ⟨"NonceBox", "sealBy", "([B)V"⟩ ∈ tb := tb_t (List.mem_append_right _ (List.mem_append_right _ (List.mem_append_left _ (List.mem_of_getElem? (i := 228) rfl)))) rfl
theorem kl_Lw_85 : Cond.methodLink "NonceBoxLaw" 85 ⟨"NonceBoxLaw", "open", "(LNonceBox;[J)I"⟩ ∈ tb := tb_t (List.mem_append_right _ (List.mem_append_right _ (List.mem_append_left _ (List.mem_of_getElem? (i := 230) rfl)))) rfl
theorem kl_Lw_15 : Cond.methodLink "NonceBoxLaw" 15 ⟨"NonceBox", "open", "()I"⟩ ∈ tb := tb_t (List.mem_append_right _ (List.mem_append_right _ (List.mem_append_left _ (List.mem_of_getElem? (i := 234) rfl)))) rfl
theorem km_NB_open : Cond.instanceMethod ⟨"NonceBox", "open", "()I"⟩ ∈ tb := tb_t (List.mem_append_right _ (List.mem_append_right _ (List.mem_append_left _ (List.mem_of_getElem? (i := 235) rfl)))) rfl
theorem kv_NB_open : Cond.selects "NonceBox" ⟨"NonceBox", "open", "()I"⟩ ⟨"NonceBox", "open", "()I"⟩ ∈ tb := tb_t (List.mem_append_right _ (List.mem_append_right _ (List.mem_append_left _ (List.mem_of_getElem? (i := 236) rfl)))) rfl
theorem kl_NB_111 : Cond.methodLink "NonceBox" 111 ⟨"NonceBox", "openBy", "([B)Z"⟩ ∈ tb := tb_t (List.mem_append_right _ (List.mem_append_right _ (List.mem_append_left _ (List.mem_of_getElem? (i := 239) rfl)))) rfl
theorem km_NB_openBy : Cond.instanceMethod ⟨"NonceBox", "openBy", "([B)Z"⟩ ∈ tb := tb_t (List.mem_append_right _ (List.mem_append_right _ (List.mem_append_right _ (List.mem_append_left _ (List.mem_of_getElem? (i := 1) rfl))))) rfl
theorem kl_NB_126 : Cond.methodLink "NonceBox" 126 ⟨"NonceBox", "textBeginsAsWork", "()Z"⟩ ∈ tb := tb_t (List.mem_append_right _ (List.mem_append_right _ (List.mem_append_right _ (List.mem_append_left _ (List.mem_of_getElem? (i := 3) rfl))))) rfl
theorem km_NB_textBeginsAsWork : Cond.instanceMethod ⟨"NonceBox", "textBeginsAsWork", "()Z"⟩ ∈ tb := tb_t (List.mem_append_right _ (List.mem_append_right _ (List.mem_append_right _ (List.mem_append_left _ (List.mem_of_getElem? (i := 5) rfl))))) rfl
theorem kl_NB_119 : Cond.methodLink "NonceBox" 119 ⟨"java/lang/IllegalStateException", "<init>", "(Ljava/lang/String;)V"⟩ ∈ tb := tb_t (List.mem_append_right _ (List.mem_append_right _ (List.mem_append_right _ (List.mem_append_left _ (List.mem_of_getElem? (i := 17) rfl))))) rfl
theorem kl_Lw_88 : Cond.methodLink "NonceBoxLaw" 88 ⟨"NonceBoxLaw", "box", "(LNonceBox;[J)I"⟩ ∈ tb := tb_t (List.mem_append_right _ (List.mem_append_right _ (List.mem_append_right _ (List.mem_append_left _ (List.mem_of_getElem? (i := 23) rfl))))) rfl
theorem kl_Lw_20 : Cond.methodLink "NonceBoxLaw" 20 ⟨"NonceBox", "box", "()I"⟩ ∈ tb := tb_t (List.mem_append_right _ (List.mem_append_right _ (List.mem_append_right _ (List.mem_append_left _ (List.mem_of_getElem? (i := 26) rfl))))) rfl
theorem km_NB_box : Cond.instanceMethod ⟨"NonceBox", "box", "()I"⟩ ∈ tb := tb_t (List.mem_append_right _ (List.mem_append_right _ (List.mem_append_right _ (List.mem_append_left _ (List.mem_of_getElem? (i := 27) rfl))))) rfl
theorem kv_NB_box : Cond.selects "NonceBox" ⟨"NonceBox", "box", "()I"⟩ ⟨"NonceBox", "box", "()I"⟩ ∈ tb := tb_t (List.mem_append_right _ (List.mem_append_right _ (List.mem_append_right _ (List.mem_append_left _ (List.mem_of_getElem? (i := 28) rfl))))) rfl
theorem kl_Lw_91 : Cond.methodLink "NonceBoxLaw" 91 ⟨"NonceBoxLaw", "unbox", "(LNonceBox;[J)I"⟩ ∈ tb := tb_t (List.mem_append_right _ (List.mem_append_right _ (List.mem_append_right _ (List.mem_append_left _ (List.mem_of_getElem? (i := 30) rfl))))) rfl
theorem kl_Lw_23 : Cond.methodLink "NonceBoxLaw" 23 ⟨"NonceBox", "unbox", "()I"⟩ ∈ tb := tb_t (List.mem_append_right _ (List.mem_append_right _ (List.mem_append_right _ (List.mem_append_left _ (List.mem_of_getElem? (i := 33) rfl))))) rfl
theorem km_NB_unbox : Cond.instanceMethod ⟨"NonceBox", "unbox", "()I"⟩ ∈ tb := tb_t (List.mem_append_right _ (List.mem_append_right _ (List.mem_append_right _ (List.mem_append_left _ (List.mem_of_getElem? (i := 34) rfl))))) rfl
theorem kv_NB_unbox : Cond.selects "NonceBox" ⟨"NonceBox", "unbox", "()I"⟩ ⟨"NonceBox", "unbox", "()I"⟩ ∈ tb := tb_t (List.mem_append_right _ (List.mem_append_right _ (List.mem_append_right _ (List.mem_append_left _ (List.mem_of_getElem? (i := 35) rfl))))) rfl
theorem kC_Lw_27 : Cond.classLink "NonceBoxLaw" 27 "NonceBoxModel" ∈ tb := tb_t (List.mem_append_right _ (List.mem_append_right _ (List.mem_append_right _ (List.mem_append_left _ (List.mem_of_getElem? (i := 37) rfl))))) rfl
theorem kI_Md : Cond.instantiable "NonceBoxModel" 16 ∈ tb := tb_t (List.mem_append_right _ (List.mem_append_right _ (List.mem_append_right _ (List.mem_append_left _ (List.mem_of_getElem? (i := 38) rfl))))) rfl
theorem kl_Lw_29 : Cond.methodLink "NonceBoxLaw" 29 ⟨"NonceBoxModel", "<init>", "()V"⟩ ∈ tb := tb_t (List.mem_append_right _ (List.mem_append_right _ (List.mem_append_right _ (List.mem_append_left _ (List.mem_of_getElem? (i := 39) rfl))))) rfl
theorem km_Md_init : Cond.instanceMethod ⟨"NonceBoxModel", "<init>", "()V"⟩ ∈ tb := tb_t (List.mem_append_right _ (List.mem_append_right _ (List.mem_append_right _ (List.mem_append_left _ (List.mem_of_getElem? (i := 40) rfl))))) rfl
theorem kl_Md_1 : Cond.methodLink "NonceBoxModel" 1 ⟨"java/lang/Object", "<init>", "()V"⟩ ∈ tb := tb_t (List.mem_append_right _ (List.mem_append_right _ (List.mem_append_right _ (List.mem_append_left _ (List.mem_of_getElem? (i := 42) rfl))))) rfl
theorem kf_Md_7 : Cond.fieldLink "NonceBoxModel" 7 "NonceBoxModel" "bytes" "[I" ∈ tb := tb_t (List.mem_append_right _ (List.mem_append_right _ (List.mem_append_right _ (List.mem_append_left _ (List.mem_of_getElem? (i := 43) rfl))))) rfl
theorem kf_Md_67 : Cond.fieldLink "NonceBoxModel" 67 "NonceBoxModel" "textLength" "I" ∈ tb := tb_t (List.mem_append_right _ (List.mem_append_right _ (List.mem_append_right _ (List.mem_append_left _ (List.mem_of_getElem? (i := 44) rfl))))) rfl
theorem kf_Md_70 : Cond.fieldLink "NonceBoxModel" 70 "NonceBoxModel" "outLength" "I" ∈ tb := tb_t (List.mem_append_right _ (List.mem_append_right _ (List.mem_append_right _ (List.mem_append_left _ (List.mem_of_getElem? (i := 45) rfl))))) rfl
theorem kf_Md_50 : Cond.fieldLink "NonceBoxModel" 50 "NonceBoxModel" "code" "I" ∈ tb := tb_t (List.mem_append_right _ (List.mem_append_right _ (List.mem_append_right _ (List.mem_append_left _ (List.mem_of_getElem? (i := 46) rfl))))) rfl
theorem kf_Md_13 : Cond.fieldLink "NonceBoxModel" 13 "NonceBoxModel" "key" "[I" ∈ tb := tb_t (List.mem_append_right _ (List.mem_append_right _ (List.mem_append_right _ (List.mem_append_left _ (List.mem_of_getElem? (i := 47) rfl))))) rfl
theorem kf_Md_16 : Cond.fieldLink "NonceBoxModel" 16 "NonceBoxModel" "more" "[I" ∈ tb := tb_t (List.mem_append_right _ (List.mem_append_right _ (List.mem_append_right _ (List.mem_append_left _ (List.mem_of_getElem? (i := 48) rfl))))) rfl
theorem kf_Md_19 : Cond.fieldLink "NonceBoxModel" 19 "NonceBoxModel" "laid" "[I" ∈ tb := tb_t (List.mem_append_right _ (List.mem_append_right _ (List.mem_append_right _ (List.mem_append_left _ (List.mem_of_getElem? (i := 49) rfl))))) rfl
theorem kf_Md_22 : Cond.fieldLink "NonceBoxModel" 22 "NonceBoxModel" "w" "[I" ∈ tb := tb_t (List.mem_append_right _ (List.mem_append_right _ (List.mem_append_right _ (List.mem_append_left _ (List.mem_of_getElem? (i := 50) rfl))))) rfl
theorem kf_Md_25 : Cond.fieldLink "NonceBoxModel" 25 "NonceBoxModel" "stream" "[I" ∈ tb := tb_t (List.mem_append_right _ (List.mem_append_right _ (List.mem_append_right _ (List.mem_append_left _ (List.mem_of_getElem? (i := 51) rfl))))) rfl
theorem kf_Md_28 : Cond.fieldLink "NonceBoxModel" 28 "NonceBoxModel" "f" "[J" ∈ tb := tb_t (List.mem_append_right _ (List.mem_append_right _ (List.mem_append_right _ (List.mem_append_left _ (List.mem_of_getElem? (i := 52) rfl))))) rfl
theorem kf_Md_32 : Cond.fieldLink "NonceBoxModel" 32 "NonceBoxModel" "wide" "[J" ∈ tb := tb_t (List.mem_append_right _ (List.mem_append_right _ (List.mem_append_right _ (List.mem_append_left _ (List.mem_of_getElem? (i := 53) rfl))))) rfl
theorem kf_Md_35 : Cond.fieldLink "NonceBoxModel" 35 "NonceBoxModel" "a" "[J" ∈ tb := tb_t (List.mem_append_right _ (List.mem_append_right _ (List.mem_append_right _ (List.mem_append_left _ (List.mem_of_getElem? (i := 54) rfl))))) rfl
theorem kf_Md_38 : Cond.fieldLink "NonceBoxModel" 38 "NonceBoxModel" "\u0072" "[J" ∈ tb := tb_t (List.mem_append_right _ (List.mem_append_right _ (List.mem_append_right _ (List.mem_append_left _ (List.mem_of_getElem? (i := 55) rfl))))) rfl
theorem kf_Md_41 : Cond.fieldLink "NonceBoxModel" 41 "NonceBoxModel" "d" "[J" ∈ tb := tb_t (List.mem_append_right _ (List.mem_append_right _ (List.mem_append_right _ (List.mem_append_left _ (List.mem_of_getElem? (i := 56) rfl))))) rfl
theorem kf_Md_44 : Cond.fieldLink "NonceBoxModel" 44 "NonceBoxModel" "tag" "[I" ∈ tb := tb_t (List.mem_append_right _ (List.mem_append_right _ (List.mem_append_right _ (List.mem_append_left _ (List.mem_of_getElem? (i := 57) rfl))))) rfl
theorem kf_Md_47 : Cond.fieldLink "NonceBoxModel" 47 "NonceBoxModel" "body" "[I" ∈ tb := tb_t (List.mem_append_right _ (List.mem_append_right _ (List.mem_append_right _ (List.mem_append_left _ (List.mem_of_getElem? (i := 58) rfl))))) rfl
theorem kl_Lw_82 : Cond.methodLink "NonceBoxLaw" 82 ⟨"NonceBoxModel", "thrown", "()I"⟩ ∈ tb := tb_t (List.mem_append_right _ (List.mem_append_right _ (List.mem_append_right _ (List.mem_append_left _ (List.mem_of_getElem? (i := 92) rfl))))) rfl
theorem km_Md_thrown : Cond.instanceMethod ⟨"NonceBoxModel", "thrown", "()I"⟩ ∈ tb := tb_t (List.mem_append_right _ (List.mem_append_right _ (List.mem_append_right _ (List.mem_append_left _ (List.mem_of_getElem? (i := 93) rfl))))) rfl
theorem kv_Md_thrown : Cond.selects "NonceBoxModel" ⟨"NonceBoxModel", "thrown", "()I"⟩ ⟨"NonceBoxModel", "thrown", "()I"⟩ ∈ tb := tb_t (List.mem_append_right _ (List.mem_append_right _ (List.mem_append_right _ (List.mem_append_left _ (List.mem_of_getElem? (i := 94) rfl))))) rfl
theorem kl_Lw_36 : Cond.methodLink "NonceBoxLaw" 36 ⟨"NonceBoxModel", "put", "(IIJ)Z"⟩ ∈ tb := tb_t (List.mem_append_right _ (List.mem_append_right _ (List.mem_append_right _ (List.mem_append_left _ (List.mem_of_getElem? (i := 96) rfl))))) rfl
theorem km_Md_put : Cond.instanceMethod ⟨"NonceBoxModel", "put", "(IIJ)Z"⟩ ∈ tb := tb_t (List.mem_append_right _ (List.mem_append_right _ (List.mem_append_right _ (List.mem_append_left _ (List.mem_of_getElem? (i := 97) rfl))))) rfl
theorem kv_Md_put : Cond.selects "NonceBoxModel" ⟨"NonceBoxModel", "put", "(IIJ)Z"⟩ ⟨"NonceBoxModel", "put", "(IIJ)Z"⟩ ∈ tb := tb_t (List.mem_append_right _ (List.mem_append_right _ (List.mem_append_right _ (List.mem_append_left _ (List.mem_of_getElem? (i := 98) rfl))))) rfl
theorem kl_Md_58 : Cond.methodLink "NonceBoxModel" 58 ⟨"NonceBoxModel", "fits", "(III)Z"⟩ ∈ tb := tb_t (List.mem_append_right _ (List.mem_append_right _ (List.mem_append_right _ (List.mem_append_left _ (List.mem_of_getElem? (i := 100) rfl))))) rfl
theorem ks_Md_fits : Cond.static ⟨"NonceBoxModel", "fits", "(III)Z"⟩ ∈ tb := tb_t (List.mem_append_right _ (List.mem_append_right _ (List.mem_append_right _ (List.mem_append_left _ (List.mem_of_getElem? (i := 101) rfl))))) rfl
theorem kl_Md_54 : Cond.methodLink "NonceBoxModel" 54 ⟨"NonceBoxModel", "room", "(I)I"⟩ ∈ tb := tb_t (List.mem_append_right _ (List.mem_append_right _ (List.mem_append_right _ (List.mem_append_left _ (List.mem_of_getElem? (i := 103) rfl))))) rfl
theorem ks_Md_room : Cond.static ⟨"NonceBoxModel", "room", "(I)I"⟩ ∈ tb := tb_t (List.mem_append_right _ (List.mem_append_right _ (List.mem_append_right _ (List.mem_append_left _ (List.mem_of_getElem? (i := 104) rfl))))) rfl
theorem kl_Md_62 : Cond.methodLink "NonceBoxModel" 62 ⟨"NonceBoxModel", "begin", "(I)I"⟩ ∈ tb := tb_t (List.mem_append_right _ (List.mem_append_right _ (List.mem_append_right _ (List.mem_append_left _ (List.mem_of_getElem? (i := 106) rfl))))) rfl
theorem ks_Md_begin : Cond.static ⟨"NonceBoxModel", "begin", "(I)I"⟩ ∈ tb := tb_t (List.mem_append_right _ (List.mem_append_right _ (List.mem_append_right _ (List.mem_append_left _ (List.mem_of_getElem? (i := 107) rfl))))) rfl
theorem ko_Md_65 : Cond.constantLong "NonceBoxModel" 65 255 ∈ tb := tb_t (List.mem_append_right _ (List.mem_append_right _ (List.mem_append_right _ (List.mem_append_left _ (List.mem_of_getElem? (i := 109) rfl))))) rfl
theorem kl_Lw_41 : Cond.methodLink "NonceBoxLaw" 41 ⟨"NonceBoxModel", "length", "(I)Z"⟩ ∈ tb := tb_t (List.mem_append_right _ (List.mem_append_right _ (List.mem_append_right _ (List.mem_append_left _ (List.mem_of_getElem? (i := 110) rfl))))) rfl
theorem km_Md_length : Cond.instanceMethod ⟨"NonceBoxModel", "length", "(I)Z"⟩ ∈ tb := tb_t (List.mem_append_right _ (List.mem_append_right _ (List.mem_append_right _ (List.mem_append_left _ (List.mem_of_getElem? (i := 111) rfl))))) rfl
theorem kv_Md_length : Cond.selects "NonceBoxModel" ⟨"NonceBoxModel", "length", "(I)Z"⟩ ⟨"NonceBoxModel", "length", "(I)Z"⟩ ∈ tb := tb_t (List.mem_append_right _ (List.mem_append_right _ (List.mem_append_right _ (List.mem_append_left _ (List.mem_of_getElem? (i := 112) rfl))))) rfl
theorem kl_Lw_46 : Cond.methodLink "NonceBoxLaw" 46 ⟨"NonceBoxModel", "word", "(II)J"⟩ ∈ tb := tb_t (List.mem_append_right _ (List.mem_append_right _ (List.mem_append_right _ (List.mem_append_left _ (List.mem_of_getElem? (i := 114) rfl))))) rfl
theorem km_Md_word : Cond.instanceMethod ⟨"NonceBoxModel", "word", "(II)J"⟩ ∈ tb := tb_t (List.mem_append_right _ (List.mem_append_right _ (List.mem_append_right _ (List.mem_append_left _ (List.mem_of_getElem? (i := 115) rfl))))) rfl
theorem kv_Md_word : Cond.selects "NonceBoxModel" ⟨"NonceBoxModel", "word", "(II)J"⟩ ⟨"NonceBoxModel", "word", "(II)J"⟩ ∈ tb := tb_t (List.mem_append_right _ (List.mem_append_right _ (List.mem_append_right _ (List.mem_append_left _ (List.mem_of_getElem? (i := 116) rfl))))) rfl
theorem kl_Lw_51 : Cond.methodLink "NonceBoxLaw" 51 ⟨"NonceBoxModel", "size", "(I)I"⟩ ∈ tb := tb_t (List.mem_append_right _ (List.mem_append_right _ (List.mem_append_right _ (List.mem_append_left _ (List.mem_of_getElem? (i := 118) rfl))))) rfl
theorem km_Md_size : Cond.instanceMethod ⟨"NonceBoxModel", "size", "(I)I"⟩ ∈ tb := tb_t (List.mem_append_right _ (List.mem_append_right _ (List.mem_append_right _ (List.mem_append_left _ (List.mem_of_getElem? (i := 119) rfl))))) rfl
theorem kv_Md_size : Cond.selects "NonceBoxModel" ⟨"NonceBoxModel", "size", "(I)I"⟩ ⟨"NonceBoxModel", "size", "(I)I"⟩ ∈ tb := tb_t (List.mem_append_right _ (List.mem_append_right _ (List.mem_append_right _ (List.mem_append_left _ (List.mem_of_getElem? (i := 120) rfl))))) rfl
theorem kl_Lw_55 : Cond.methodLink "NonceBoxLaw" 55 ⟨"NonceBoxModel", "move", "(I)Z"⟩ ∈ tb := tb_t (List.mem_append_right _ (List.mem_append_right _ (List.mem_append_right _ (List.mem_append_left _ (List.mem_of_getElem? (i := 122) rfl))))) rfl
theorem km_Md_move : Cond.instanceMethod ⟨"NonceBoxModel", "move", "(I)Z"⟩ ∈ tb := tb_t (List.mem_append_right _ (List.mem_append_right _ (List.mem_append_right _ (List.mem_append_left _ (List.mem_of_getElem? (i := 123) rfl))))) rfl
theorem kv_Md_move : Cond.selects "NonceBoxModel" ⟨"NonceBoxModel", "move", "(I)Z"⟩ ⟨"NonceBoxModel", "move", "(I)Z"⟩ ∈ tb := tb_t (List.mem_append_right _ (List.mem_append_right _ (List.mem_append_right _ (List.mem_append_left _ (List.mem_of_getElem? (i := 124) rfl))))) rfl
theorem kl_Lw_59 : Cond.methodLink "NonceBoxLaw" 59 ⟨"NonceBoxModel", "mix", "()V"⟩ ∈ tb := tb_t (List.mem_append_right _ (List.mem_append_right _ (List.mem_append_right _ (List.mem_append_left _ (List.mem_of_getElem? (i := 126) rfl))))) rfl
theorem km_Md_mix : Cond.instanceMethod ⟨"NonceBoxModel", "mix", "()V"⟩ ∈ tb := tb_t (List.mem_append_right _ (List.mem_append_right _ (List.mem_append_right _ (List.mem_append_left _ (List.mem_of_getElem? (i := 127) rfl))))) rfl
theorem kv_Md_mix : Cond.selects "NonceBoxModel" ⟨"NonceBoxModel", "mix", "()V"⟩ ⟨"NonceBoxModel", "mix", "()V"⟩ ∈ tb := tb_t (List.mem_append_right _ (List.mem_append_right _ (List.mem_append_right _ (List.mem_append_left _ (List.mem_of_getElem? (i := 128) rfl))))) rfl
theorem kl_Md_103 : Cond.methodLink "NonceBoxModel" 103 ⟨"NonceBoxModel", "takeKey", "()V"⟩ ∈ tb := tb_t (List.mem_append_right _ (List.mem_append_right _ (List.mem_append_right _ (List.mem_append_left _ (List.mem_of_getElem? (i := 130) rfl))))) rfl
theorem km_Md_takeKey : Cond.instanceMethod ⟨"NonceBoxModel", "takeKey", "()V"⟩ ∈ tb := tb_t (List.mem_append_right _ (List.mem_append_right _ (List.mem_append_right _ (List.mem_append_left _ (List.mem_of_getElem? (i := 132) rfl))))) rfl
theorem kl_Md_96 : Cond.methodLink "NonceBoxModel" 96 ⟨"NonceBoxModel", "mixKey", "()V"⟩ ∈ tb := tb_t (List.mem_append_right _ (List.mem_append_right _ (List.mem_append_right _ (List.mem_append_left _ (List.mem_of_getElem? (i := 134) rfl))))) rfl
theorem km_Md_mixKey : Cond.instanceMethod ⟨"NonceBoxModel", "mixKey", "()V"⟩ ∈ tb := tb_t (List.mem_append_right _ (List.mem_append_right _ (List.mem_append_right _ (List.mem_append_left _ (List.mem_of_getElem? (i := 136) rfl))))) rfl
theorem kl_Md_89 : Cond.methodLink "NonceBoxModel" 89 ⟨"NonceBoxModel", "stir", "()V"⟩ ∈ tb := tb_t (List.mem_append_right _ (List.mem_append_right _ (List.mem_append_right _ (List.mem_append_left _ (List.mem_of_getElem? (i := 138) rfl))))) rfl
theorem km_Md_stir : Cond.instanceMethod ⟨"NonceBoxModel", "stir", "()V"⟩ ∈ tb := tb_t (List.mem_append_right _ (List.mem_append_right _ (List.mem_append_right _ (List.mem_append_left _ (List.mem_of_getElem? (i := 140) rfl))))) rfl
theorem ko_Md_77 : Cond.constant "NonceBoxModel" 77 1634760805 ∈ tb := tb_t (List.mem_append_right _ (List.mem_append_right _ (List.mem_append_right _ (List.mem_append_left _ (List.mem_of_getElem? (i := 142) rfl))))) rfl
theorem ko_Md_78 : Cond.constant "NonceBoxModel" 78 857760878 ∈ tb := tb_t (List.mem_append_right _ (List.mem_append_right _ (List.mem_append_right _ (List.mem_append_left _ (List.mem_of_getElem? (i := 143) rfl))))) rfl
theorem ko_Md_79 : Cond.constant "NonceBoxModel" 79 2036477234 ∈ tb := tb_t (List.mem_append_right _ (List.mem_append_right _ (List.mem_append_right _ (List.mem_append_left _ (List.mem_of_getElem? (i := 144) rfl))))) rfl
theorem ko_Md_80 : Cond.constant "NonceBoxModel" 80 1797285236 ∈ tb := tb_t (List.mem_append_right _ (List.mem_append_right _ (List.mem_append_right _ (List.mem_append_left _ (List.mem_of_getElem? (i := 145) rfl))))) rfl
theorem kl_Md_81 : Cond.methodLink "NonceBoxModel" 81 ⟨"NonceBoxModel", "wordAt", "([II)I"⟩ ∈ tb := tb_t (List.mem_append_right _ (List.mem_append_right _ (List.mem_append_right _ (List.mem_append_left _ (List.mem_of_getElem? (i := 146) rfl))))) rfl
theorem ks_Md_wordAt : Cond.static ⟨"NonceBoxModel", "wordAt", "([II)I"⟩ ∈ tb := tb_t (List.mem_append_right _ (List.mem_append_right _ (List.mem_append_right _ (List.mem_append_left _ (List.mem_of_getElem? (i := 147) rfl))))) rfl
theorem kl_Md_85 : Cond.methodLink "NonceBoxModel" 85 ⟨"NonceBoxModel", "quarter", "(IIII)V"⟩ ∈ tb := tb_t (List.mem_append_right _ (List.mem_append_right _ (List.mem_append_right _ (List.mem_append_left _ (List.mem_of_getElem? (i := 149) rfl))))) rfl
theorem km_Md_quarter : Cond.instanceMethod ⟨"NonceBoxModel", "quarter", "(IIII)V"⟩ ∈ tb := tb_t (List.mem_append_right _ (List.mem_append_right _ (List.mem_append_right _ (List.mem_append_left _ (List.mem_of_getElem? (i := 151) rfl))))) rfl
theorem kl_Md_73 : Cond.methodLink "NonceBoxModel" 73 ⟨"NonceBoxModel", "rotated", "(II)I"⟩ ∈ tb := tb_t (List.mem_append_right _ (List.mem_append_right _ (List.mem_append_right _ (List.mem_append_left _ (List.mem_of_getElem? (i := 153) rfl))))) rfl
theorem ks_Md_rotated : Cond.static ⟨"NonceBoxModel", "rotated", "(II)I"⟩ ∈ tb := tb_t (List.mem_append_right _ (List.mem_append_right _ (List.mem_append_right _ (List.mem_append_left _ (List.mem_of_getElem? (i := 154) rfl))))) rfl
theorem kl_Md_92 : Cond.methodLink "NonceBoxModel" 92 ⟨"NonceBoxModel", "setWord", "([III)V"⟩ ∈ tb := tb_t (List.mem_append_right _ (List.mem_append_right _ (List.mem_append_right _ (List.mem_append_left _ (List.mem_of_getElem? (i := 156) rfl))))) rfl
theorem ks_Md_setWord : Cond.static ⟨"NonceBoxModel", "setWord", "([III)V"⟩ ∈ tb := tb_t (List.mem_append_right _ (List.mem_append_right _ (List.mem_append_right _ (List.mem_append_left _ (List.mem_of_getElem? (i := 157) rfl))))) rfl
theorem kl_Md_106 : Cond.methodLink "NonceBoxModel" 106 ⟨"NonceBoxModel", "outFrom", "([II)V"⟩ ∈ tb := tb_t (List.mem_append_right _ (List.mem_append_right _ (List.mem_append_right _ (List.mem_append_left _ (List.mem_of_getElem? (i := 159) rfl))))) rfl
theorem km_Md_outFrom : Cond.instanceMethod ⟨"NonceBoxModel", "outFrom", "([II)V"⟩ ∈ tb := tb_t (List.mem_append_right _ (List.mem_append_right _ (List.mem_append_right _ (List.mem_append_left _ (List.mem_of_getElem? (i := 161) rfl))))) rfl
theorem kl_Md_99 : Cond.methodLink "NonceBoxModel" 99 ⟨"NonceBoxModel", "beginOut", "(I)V"⟩ ∈ tb := tb_t (List.mem_append_right _ (List.mem_append_right _ (List.mem_append_right _ (List.mem_append_left _ (List.mem_of_getElem? (i := 163) rfl))))) rfl
theorem km_Md_beginOut : Cond.instanceMethod ⟨"NonceBoxModel", "beginOut", "(I)V"⟩ ∈ tb := tb_t (List.mem_append_right _ (List.mem_append_right _ (List.mem_append_right _ (List.mem_append_left _ (List.mem_of_getElem? (i := 165) rfl))))) rfl
theorem kl_Lw_63 : Cond.methodLink "NonceBoxLaw" 63 ⟨"NonceBoxModel", "stream", "(I)Z"⟩ ∈ tb := tb_t (List.mem_append_right _ (List.mem_append_right _ (List.mem_append_right _ (List.mem_append_left _ (List.mem_of_getElem? (i := 167) rfl))))) rfl
theorem km_Md_stream : Cond.instanceMethod ⟨"NonceBoxModel", "stream", "(I)Z"⟩ ∈ tb := tb_t (List.mem_append_right _ (List.mem_append_right _ (List.mem_append_right _ (List.mem_append_left _ (List.mem_of_getElem? (i := 168) rfl))))) rfl
theorem kv_Md_stream : Cond.selects "NonceBoxModel" ⟨"NonceBoxModel", "stream", "(I)Z"⟩ ⟨"NonceBoxModel", "stream", "(I)Z"⟩ ∈ tb := tb_t (List.mem_append_right _ (List.mem_append_right _ (List.mem_append_right _ (List.mem_append_left _ (List.mem_of_getElem? (i := 169) rfl))))) rfl
theorem kl_Md_110 : Cond.methodLink "NonceBoxModel" 110 ⟨"NonceBoxModel", "flow", "()V"⟩ ∈ tb := tb_t (List.mem_append_right _ (List.mem_append_right _ (List.mem_append_right _ (List.mem_append_left _ (List.mem_of_getElem? (i := 171) rfl))))) rfl
theorem km_Md_flow : Cond.instanceMethod ⟨"NonceBoxModel", "flow", "()V"⟩ ∈ tb := tb_t (List.mem_append_right _ (List.mem_append_right _ (List.mem_append_right _ (List.mem_append_left _ (List.mem_of_getElem? (i := 173) rfl))))) rfl
theorem kl_Lw_67 : Cond.methodLink "NonceBoxLaw" 67 ⟨"NonceBoxModel", "tag", "()V"⟩ ∈ tb := tb_t (List.mem_append_right _ (List.mem_append_right _ (List.mem_append_right _ (List.mem_append_left _ (List.mem_of_getElem? (i := 175) rfl))))) rfl
theorem km_Md_tag : Cond.instanceMethod ⟨"NonceBoxModel", "tag", "()V"⟩ ∈ tb := tb_t (List.mem_append_right _ (List.mem_append_right _ (List.mem_append_right _ (List.mem_append_left _ (List.mem_of_getElem? (i := 176) rfl))))) rfl
theorem kv_Md_tag : Cond.selects "NonceBoxModel" ⟨"NonceBoxModel", "tag", "()V"⟩ ⟨"NonceBoxModel", "tag", "()V"⟩ ∈ tb := tb_t (List.mem_append_right _ (List.mem_append_right _ (List.mem_append_right _ (List.mem_append_left _ (List.mem_of_getElem? (i := 177) rfl))))) rfl
theorem kl_Md_133 : Cond.methodLink "NonceBoxModel" 133 ⟨"NonceBoxModel", "makeTag", "(I)V"⟩ ∈ tb := tb_t (List.mem_append_right _ (List.mem_append_right _ (List.mem_append_right _ (List.mem_append_left _ (List.mem_of_getElem? (i := 179) rfl))))) rfl
theorem km_Md_makeTag : Cond.instanceMethod ⟨"NonceBoxModel", "makeTag", "(I)V"⟩ ∈ tb := tb_t (List.mem_append_right _ (List.mem_append_right _ (List.mem_append_right _ (List.mem_append_left _ (List.mem_of_getElem? (i := 181) rfl))))) rfl
theorem kl_Md_120 : Cond.methodLink "NonceBoxModel" 120 ⟨"NonceBoxModel", "limitOf", "(I)I"⟩ ∈ tb := tb_t (List.mem_append_right _ (List.mem_append_right _ (List.mem_append_right _ (List.mem_append_left _ (List.mem_of_getElem? (i := 183) rfl))))) rfl
theorem ks_Md_limitOf : Cond.static ⟨"NonceBoxModel", "limitOf", "(I)I"⟩ ∈ tb := tb_t (List.mem_append_right _ (List.mem_append_right _ (List.mem_append_right _ (List.mem_append_left _ (List.mem_of_getElem? (i := 184) rfl))))) rfl
theorem kl_Md_123 : Cond.methodLink "NonceBoxModel" 123 ⟨"NonceBoxModel", "addByte", "([JII)V"⟩ ∈ tb := tb_t (List.mem_append_right _ (List.mem_append_right _ (List.mem_append_right _ (List.mem_append_left _ (List.mem_of_getElem? (i := 186) rfl))))) rfl
theorem ks_Md_addByte : Cond.static ⟨"NonceBoxModel", "addByte", "([JII)V"⟩ ∈ tb := tb_t (List.mem_append_right _ (List.mem_append_right _ (List.mem_append_right _ (List.mem_append_left _ (List.mem_of_getElem? (i := 187) rfl))))) rfl
theorem kl_Md_127 : Cond.methodLink "NonceBoxModel" 127 ⟨"NonceBoxModel", "timesR", "()V"⟩ ∈ tb := tb_t (List.mem_append_right _ (List.mem_append_right _ (List.mem_append_right _ (List.mem_append_left _ (List.mem_of_getElem? (i := 189) rfl))))) rfl
theorem km_Md_timesR : Cond.instanceMethod ⟨"NonceBoxModel", "timesR", "()V"⟩ ∈ tb := tb_t (List.mem_append_right _ (List.mem_append_right _ (List.mem_append_right _ (List.mem_append_left _ (List.mem_of_getElem? (i := 191) rfl))))) rfl
theorem ko_Md_115 : Cond.constantLong "NonceBoxModel" 115 5 ∈ tb := tb_t (List.mem_append_right _ (List.mem_append_right _ (List.mem_append_right _ (List.mem_append_left _ (List.mem_of_getElem? (i := 193) rfl))))) rfl
theorem kl_Md_117 : Cond.methodLink "NonceBoxModel" 117 ⟨"NonceBoxModel", "carryTag", "()V"⟩ ∈ tb := tb_t (List.mem_append_right _ (List.mem_append_right _ (List.mem_append_right _ (List.mem_append_left _ (List.mem_of_getElem? (i := 194) rfl))))) rfl
theorem km_Md_carryTag : Cond.instanceMethod ⟨"NonceBoxModel", "carryTag", "()V"⟩ ∈ tb := tb_t (List.mem_append_right _ (List.mem_append_right _ (List.mem_append_right _ (List.mem_append_left _ (List.mem_of_getElem? (i := 196) rfl))))) rfl
theorem ko_Md_113 : Cond.constantLong "NonceBoxModel" 113 67108863 ∈ tb := tb_t (List.mem_append_right _ (List.mem_append_right _ (List.mem_append_right _ (List.mem_append_left _ (List.mem_of_getElem? (i := 198) rfl))))) rfl
theorem kl_Md_130 : Cond.methodLink "NonceBoxModel" 130 ⟨"NonceBoxModel", "finishTag", "()V"⟩ ∈ tb := tb_t (List.mem_append_right _ (List.mem_append_right _ (List.mem_append_right _ (List.mem_append_left _ (List.mem_of_getElem? (i := 199) rfl))))) rfl
theorem km_Md_finishTag : Cond.instanceMethod ⟨"NonceBoxModel", "finishTag", "()V"⟩ ∈ tb := tb_t (List.mem_append_right _ (List.mem_append_right _ (List.mem_append_right _ (List.mem_append_left _ (List.mem_of_getElem? (i := 201) rfl))))) rfl
theorem kl_Lw_71 : Cond.methodLink "NonceBoxLaw" 71 ⟨"NonceBoxModel", "multiply", "()V"⟩ ∈ tb := tb_t (List.mem_append_right _ (List.mem_append_right _ (List.mem_append_right _ (List.mem_append_left _ (List.mem_of_getElem? (i := 203) rfl))))) rfl
theorem km_Md_multiply : Cond.instanceMethod ⟨"NonceBoxModel", "multiply", "()V"⟩ ∈ tb := tb_t (List.mem_append_right _ (List.mem_append_right _ (List.mem_append_right _ (List.mem_append_left _ (List.mem_of_getElem? (i := 204) rfl))))) rfl
theorem kv_Md_multiply : Cond.selects "NonceBoxModel" ⟨"NonceBoxModel", "multiply", "()V"⟩ ⟨"NonceBoxModel", "multiply", "()V"⟩ ∈ tb := tb_t (List.mem_append_right _ (List.mem_append_right _ (List.mem_append_right _ (List.mem_append_left _ (List.mem_of_getElem? (i := 205) rfl))))) rfl
theorem kl_Md_178 : Cond.methodLink "NonceBoxModel" 178 ⟨"NonceBoxModel", "multipleKey", "()V"⟩ ∈ tb := tb_t (List.mem_append_right _ (List.mem_append_right _ (List.mem_append_right _ (List.mem_append_left _ (List.mem_of_getElem? (i := 207) rfl))))) rfl
theorem km_Md_multipleKey : Cond.instanceMethod ⟨"NonceBoxModel", "multipleKey", "()V"⟩ ∈ tb := tb_t (List.mem_append_right _ (List.mem_append_right _ (List.mem_append_right _ (List.mem_append_left _ (List.mem_of_getElem? (i := 209) rfl))))) rfl
theorem kl_Md_159 : Cond.methodLink "NonceBoxModel" 159 ⟨"NonceBoxModel", "set", "(IJ)V"⟩ ∈ tb := tb_t (List.mem_append_right _ (List.mem_append_right _ (List.mem_append_right _ (List.mem_append_left _ (List.mem_of_getElem? (i := 211) rfl))))) rfl
theorem km_Md_set : Cond.instanceMethod ⟨"NonceBoxModel", "set", "(IJ)V"⟩ ∈ tb := tb_t (List.mem_append_right _ (List.mem_append_right _ (List.mem_append_right _ (List.mem_append_left _ (List.mem_of_getElem? (i := 213) rfl))))) rfl
theorem ko_Md_163 : Cond.constantLong "NonceBoxModel" 163 121665 ∈ tb := tb_t (List.mem_append_right _ (List.mem_append_right _ (List.mem_append_right _ (List.mem_append_left _ (List.mem_of_getElem? (i := 215) rfl))))) rfl
theorem kl_Md_165 : Cond.methodLink "NonceBoxModel" 165 ⟨"NonceBoxModel", "copy", "(II)V"⟩ ∈ tb := tb_t (List.mem_append_right _ (List.mem_append_right _ (List.mem_append_right _ (List.mem_append_left _ (List.mem_of_getElem? (i := 216) rfl))))) rfl
theorem km_Md_copy : Cond.instanceMethod ⟨"NonceBoxModel", "copy", "(II)V"⟩ ∈ tb := tb_t (List.mem_append_right _ (List.mem_append_right _ (List.mem_append_right _ (List.mem_append_left _ (List.mem_of_getElem? (i := 218) rfl))))) rfl
theorem kl_Md_169 : Cond.methodLink "NonceBoxModel" 169 ⟨"NonceBoxModel", "swap", "(II)V"⟩ ∈ tb := tb_t (List.mem_append_right _ (List.mem_append_right _ (List.mem_append_right _ (List.mem_append_left _ (List.mem_of_getElem? (i := 220) rfl))))) rfl
theorem km_Md_swap : Cond.instanceMethod ⟨"NonceBoxModel", "swap", "(II)V"⟩ ∈ tb := tb_t (List.mem_append_right _ (List.mem_append_right _ (List.mem_append_right _ (List.mem_append_left _ (List.mem_of_getElem? (i := 222) rfl))))) rfl
theorem kl_Md_172 : Cond.methodLink "NonceBoxModel" 172 ⟨"NonceBoxModel", "ladder", "()V"⟩ ∈ tb := tb_t (List.mem_append_right _ (List.mem_append_right _ (List.mem_append_right _ (List.mem_append_left _ (List.mem_of_getElem? (i := 224) rfl))))) rfl
theorem km_Md_ladder : Cond.instanceMethod ⟨"NonceBoxModel", "ladder", "()V"⟩ ∈ tb := tb_t (List.mem_append_right _ (List.mem_append_right _ (List.mem_append_right _ (List.mem_append_left _ (List.mem_of_getElem? (i := 226) rfl))))) rfl
theorem kl_Md_145 : Cond.methodLink "NonceBoxModel" 145 ⟨"NonceBoxModel", "add", "(III)V"⟩ ∈ tb := tb_t (List.mem_append_right _ (List.mem_append_right _ (List.mem_append_right _ (List.mem_append_left _ (List.mem_of_getElem? (i := 228) rfl))))) rfl
theorem km_Md_add : Cond.instanceMethod ⟨"NonceBoxModel", "add", "(III)V"⟩ ∈ tb := tb_t (List.mem_append_right _ (List.mem_append_right _ (List.mem_append_right _ (List.mem_append_left _ (List.mem_of_getElem? (i := 230) rfl))))) rfl
theorem kl_Md_138 : Cond.methodLink "NonceBoxModel" 138 ⟨"NonceBoxModel", "carry", "(I)V"⟩ ∈ tb := tb_t (List.mem_append_right _ (List.mem_append_right _ (List.mem_append_right _ (List.mem_append_left _ (List.mem_of_getElem? (i := 232) rfl))))) rfl
theorem km_Md_carry : Cond.instanceMethod ⟨"NonceBoxModel", "carry", "(I)V"⟩ ∈ tb := tb_t (List.mem_append_right _ (List.mem_append_right _ (List.mem_append_right _ (List.mem_append_left _ (List.mem_of_getElem? (i := 234) rfl))))) rfl
theorem ko_Md_136 : Cond.constantLong "NonceBoxModel" 136 608 ∈ tb := tb_t (List.mem_append_right _ (List.mem_append_right _ (List.mem_append_right _ (List.mem_append_left _ (List.mem_of_getElem? (i := 236) rfl))))) rfl
theorem kl_Md_149 : Cond.methodLink "NonceBoxModel" 149 ⟨"NonceBoxModel", "subtract", "(III)V"⟩ ∈ tb := tb_t (List.mem_append_right _ (List.mem_append_right _ (List.mem_append_right _ (List.mem_append_left _ (List.mem_of_getElem? (i := 237) rfl))))) rfl
theorem km_Md_subtract : Cond.instanceMethod ⟨"NonceBoxModel", "subtract", "(III)V"⟩ ∈ tb := tb_t (List.mem_append_right _ (List.mem_append_right _ (List.mem_append_right _ (List.mem_append_left _ (List.mem_of_getElem? (i := 239) rfl))))) rfl
theorem ko_Md_141 : Cond.constantLong "NonceBoxModel" 141 134216512 ∈ tb := tb_t (List.mem_append_right _ (List.mem_append_right _ (List.mem_append_right _ (List.mem_append_right _ (List.mem_of_getElem? (i := 1) rfl))))) rfl
theorem ko_Md_143 : Cond.constantLong "NonceBoxModel" 143 134217726 ∈ tb := tb_t (List.mem_append_right _ (List.mem_append_right _ (List.mem_append_right _ (List.mem_append_right _ (List.mem_of_getElem? (i := 2) rfl))))) rfl
theorem kl_Md_152 : Cond.methodLink "NonceBoxModel" 152 ⟨"NonceBoxModel", "times", "(III)V"⟩ ∈ tb := tb_t (List.mem_append_right _ (List.mem_append_right _ (List.mem_append_right _ (List.mem_append_right _ (List.mem_of_getElem? (i := 3) rfl))))) rfl
theorem km_Md_times : Cond.instanceMethod ⟨"NonceBoxModel", "times", "(III)V"⟩ ∈ tb := tb_t (List.mem_append_right _ (List.mem_append_right _ (List.mem_append_right _ (List.mem_append_right _ (List.mem_of_getElem? (i := 5) rfl))))) rfl
theorem kl_Md_175 : Cond.methodLink "NonceBoxModel" 175 ⟨"NonceBoxModel", "finish", "(I)V"⟩ ∈ tb := tb_t (List.mem_append_right _ (List.mem_append_right _ (List.mem_append_right _ (List.mem_append_right _ (List.mem_of_getElem? (i := 7) rfl))))) rfl
theorem km_Md_finish : Cond.instanceMethod ⟨"NonceBoxModel", "finish", "(I)V"⟩ ∈ tb := tb_t (List.mem_append_right _ (List.mem_append_right _ (List.mem_append_right _ (List.mem_append_right _ (List.mem_of_getElem? (i := 9) rfl))))) rfl
theorem ko_Md_155 : Cond.constantLong "NonceBoxModel" 155 2097151 ∈ tb := tb_t (List.mem_append_right _ (List.mem_append_right _ (List.mem_append_right _ (List.mem_append_right _ (List.mem_of_getElem? (i := 11) rfl))))) rfl
theorem ko_Md_157 : Cond.constantLong "NonceBoxModel" 157 19 ∈ tb := tb_t (List.mem_append_right _ (List.mem_append_right _ (List.mem_append_right _ (List.mem_append_right _ (List.mem_of_getElem? (i := 12) rfl))))) rfl
theorem kl_Lw_75 : Cond.methodLink "NonceBoxLaw" 75 ⟨"NonceBoxModel", "agree", "()V"⟩ ∈ tb := tb_t (List.mem_append_right _ (List.mem_append_right _ (List.mem_append_right _ (List.mem_append_right _ (List.mem_of_getElem? (i := 13) rfl))))) rfl
theorem km_Md_agree : Cond.instanceMethod ⟨"NonceBoxModel", "agree", "()V"⟩ ∈ tb := tb_t (List.mem_append_right _ (List.mem_append_right _ (List.mem_append_right _ (List.mem_append_right _ (List.mem_of_getElem? (i := 14) rfl))))) rfl
theorem kv_Md_agree : Cond.selects "NonceBoxModel" ⟨"NonceBoxModel", "agree", "()V"⟩ ⟨"NonceBoxModel", "agree", "()V"⟩ ∈ tb := tb_t (List.mem_append_right _ (List.mem_append_right _ (List.mem_append_right _ (List.mem_append_right _ (List.mem_of_getElem? (i := 15) rfl))))) rfl
theorem kl_Md_181 : Cond.methodLink "NonceBoxModel" 181 ⟨"NonceBoxModel", "agreeKey", "()V"⟩ ∈ tb := tb_t (List.mem_append_right _ (List.mem_append_right _ (List.mem_append_right _ (List.mem_append_right _ (List.mem_of_getElem? (i := 17) rfl))))) rfl
theorem km_Md_agreeKey : Cond.instanceMethod ⟨"NonceBoxModel", "agreeKey", "()V"⟩ ∈ tb := tb_t (List.mem_append_right _ (List.mem_append_right _ (List.mem_append_right _ (List.mem_append_right _ (List.mem_of_getElem? (i := 19) rfl))))) rfl
theorem kl_Lw_81 : Cond.methodLink "NonceBoxLaw" 81 ⟨"NonceBoxModel", "seal", "()I"⟩ ∈ tb := tb_t (List.mem_append_right _ (List.mem_append_right _ (List.mem_append_right _ (List.mem_append_right _ (List.mem_of_getElem? (i := 21) rfl))))) rfl
theorem km_Md_seal : Cond.instanceMethod ⟨"NonceBoxModel", "seal", "()I"⟩ ∈ tb := tb_t (List.mem_append_right _ (List.mem_append_right _ (List.mem_append_right _ (List.mem_append_right _ (List.mem_of_getElem? (i := 22) rfl))))) rfl
theorem kv_Md_seal : Cond.selects "NonceBoxModel" ⟨"NonceBoxModel", "seal", "()I"⟩ ⟨"NonceBoxModel", "seal", "()I"⟩ ∈ tb := tb_t (List.mem_append_right _ (List.mem_append_right _ (List.mem_append_right _ (List.mem_append_right _ (List.mem_of_getElem? (i := 23) rfl))))) rfl
theorem kl_Md_187 : Cond.methodLink "NonceBoxModel" 187 ⟨"NonceBoxModel", "sealIt", "()I"⟩ ∈ tb := tb_t (List.mem_append_right _ (List.mem_append_right _ (List.mem_append_right _ (List.mem_append_right _ (List.mem_of_getElem? (i := 25) rfl))))) rfl
theorem km_Md_sealIt : Cond.instanceMethod ⟨"NonceBoxModel", "sealIt", "()I"⟩ ∈ tb := tb_t (List.mem_append_right _ (List.mem_append_right _ (List.mem_append_right _ (List.mem_append_right _ (List.mem_of_getElem? (i := 27) rfl))))) rfl
theorem kl_Md_184 : Cond.methodLink "NonceBoxModel" 184 ⟨"NonceBoxModel", "tagKey", "()V"⟩ ∈ tb := tb_t (List.mem_append_right _ (List.mem_append_right _ (List.mem_append_right _ (List.mem_append_right _ (List.mem_of_getElem? (i := 29) rfl))))) rfl
theorem km_Md_tagKey : Cond.instanceMethod ⟨"NonceBoxModel", "tagKey", "()V"⟩ ∈ tb := tb_t (List.mem_append_right _ (List.mem_append_right _ (List.mem_append_right _ (List.mem_append_right _ (List.mem_of_getElem? (i := 31) rfl))))) rfl
theorem kl_Lw_87 : Cond.methodLink "NonceBoxLaw" 87 ⟨"NonceBoxModel", "open", "()I"⟩ ∈ tb := tb_t (List.mem_append_right _ (List.mem_append_right _ (List.mem_append_right _ (List.mem_append_right _ (List.mem_of_getElem? (i := 33) rfl))))) rfl
theorem km_Md_open : Cond.instanceMethod ⟨"NonceBoxModel", "open", "()I"⟩ ∈ tb := tb_t (List.mem_append_right _ (List.mem_append_right _ (List.mem_append_right _ (List.mem_append_right _ (List.mem_of_getElem? (i := 34) rfl))))) rfl
theorem kv_Md_open : Cond.selects "NonceBoxModel" ⟨"NonceBoxModel", "open", "()I"⟩ ⟨"NonceBoxModel", "open", "()I"⟩ ∈ tb := tb_t (List.mem_append_right _ (List.mem_append_right _ (List.mem_append_right _ (List.mem_append_right _ (List.mem_of_getElem? (i := 35) rfl))))) rfl
theorem kl_Md_191 : Cond.methodLink "NonceBoxModel" 191 ⟨"NonceBoxModel", "openIt", "()I"⟩ ∈ tb := tb_t (List.mem_append_right _ (List.mem_append_right _ (List.mem_append_right _ (List.mem_append_right _ (List.mem_of_getElem? (i := 37) rfl))))) rfl
theorem km_Md_openIt : Cond.instanceMethod ⟨"NonceBoxModel", "openIt", "()I"⟩ ∈ tb := tb_t (List.mem_append_right _ (List.mem_append_right _ (List.mem_append_right _ (List.mem_append_right _ (List.mem_of_getElem? (i := 39) rfl))))) rfl
theorem kl_Lw_90 : Cond.methodLink "NonceBoxLaw" 90 ⟨"NonceBoxModel", "box", "()I"⟩ ∈ tb := tb_t (List.mem_append_right _ (List.mem_append_right _ (List.mem_append_right _ (List.mem_append_right _ (List.mem_of_getElem? (i := 41) rfl))))) rfl
theorem km_Md_box : Cond.instanceMethod ⟨"NonceBoxModel", "box", "()I"⟩ ∈ tb := tb_t (List.mem_append_right _ (List.mem_append_right _ (List.mem_append_right _ (List.mem_append_right _ (List.mem_of_getElem? (i := 42) rfl))))) rfl
theorem kv_Md_box : Cond.selects "NonceBoxModel" ⟨"NonceBoxModel", "box", "()I"⟩ ⟨"NonceBoxModel", "box", "()I"⟩ ∈ tb := tb_t (List.mem_append_right _ (List.mem_append_right _ (List.mem_append_right _ (List.mem_append_right _ (List.mem_of_getElem? (i := 43) rfl))))) rfl
theorem kl_Lw_93 : Cond.methodLink "NonceBoxLaw" 93 ⟨"NonceBoxModel", "unbox", "()I"⟩ ∈ tb := tb_t (List.mem_append_right _ (List.mem_append_right _ (List.mem_append_right _ (List.mem_append_right _ (List.mem_of_getElem? (i := 45) rfl))))) rfl
theorem km_Md_unbox : Cond.instanceMethod ⟨"NonceBoxModel", "unbox", "()I"⟩ ∈ tb := tb_t (List.mem_append_right _ (List.mem_append_right _ (List.mem_append_right _ (List.mem_append_right _ (List.mem_of_getElem? (i := 46) rfl))))) rfl
theorem kv_Md_unbox : Cond.selects "NonceBoxModel" ⟨"NonceBoxModel", "unbox", "()I"⟩ ⟨"NonceBoxModel", "unbox", "()I"⟩ ∈ tb := tb_t (List.mem_append_right _ (List.mem_append_right _ (List.mem_append_right _ (List.mem_append_right _ (List.mem_of_getElem? (i := 47) rfl))))) rfl
theorem ko_Lw_30 : Cond.constantLong "NonceBoxLaw" 30 4294967295 ∈ tb := tb_t (List.mem_append_right _ (List.mem_append_right _ (List.mem_append_right _ (List.mem_append_right _ (List.mem_of_getElem? (i := 49) rfl))))) rfl
theorem kv_NB_rowOf : Cond.selects "NonceBox" ⟨"NonceBox", "rowOf", "(I)[B"⟩ ⟨"NonceBox", "rowOf", "(I)[B"⟩ ∈ tb := tb_p (List.mem_map.mpr ⟨_, (List.mem_append_left _ (List.mem_of_getElem? (i := 0) rfl)), rfl⟩) rfl
theorem kv_Mx_layOut : Cond.selects "NonceBox$Mixer" ⟨"NonceBox$Mixer", "layOut", "([B[B)V"⟩ ⟨"NonceBox$Mixer", "layOut", "([B[B)V"⟩ ∈ tb := tb_p (List.mem_map.mpr ⟨_, (List.mem_append_left _ (List.mem_of_getElem? (i := 1) rfl)), rfl⟩) rfl
theorem kv_Mx_turnRounds : Cond.selects "NonceBox$Mixer" ⟨"NonceBox$Mixer", "turnRounds", "()V"⟩ ⟨"NonceBox$Mixer", "turnRounds", "()V"⟩ ∈ tb := tb_p (List.mem_map.mpr ⟨_, (List.mem_append_left _ (List.mem_of_getElem? (i := 2) rfl)), rfl⟩) rfl
theorem kv_Mx_quarter : Cond.selects "NonceBox$Mixer" ⟨"NonceBox$Mixer", "quarter", "(IIII)V"⟩ ⟨"NonceBox$Mixer", "quarter", "(IIII)V"⟩ ∈ tb := tb_p (List.mem_map.mpr ⟨_, (List.mem_append_left _ (List.mem_of_getElem? (i := 3) rfl)), rfl⟩) rfl
theorem kv_NB_showWork : Cond.selects "NonceBox" ⟨"NonceBox", "showWork", "(I)V"⟩ ⟨"NonceBox", "showWork", "(I)V"⟩ ∈ tb := tb_p (List.mem_map.mpr ⟨_, (List.mem_append_left _ (List.mem_of_getElem? (i := 4) rfl)), rfl⟩) rfl
theorem kv_Mx_coreInto : Cond.selects "NonceBox$Mixer" ⟨"NonceBox$Mixer", "coreInto", "(I)V"⟩ ⟨"NonceBox$Mixer", "coreInto", "(I)V"⟩ ∈ tb := tb_p (List.mem_map.mpr ⟨_, (List.mem_append_left _ (List.mem_of_getElem? (i := 6) rfl)), rfl⟩) rfl
theorem kv_Tg_readFactor : Cond.selects "NonceBox$Tagger" ⟨"NonceBox$Tagger", "readFactor", "([B)V"⟩ ⟨"NonceBox$Tagger", "readFactor", "([B)V"⟩ ∈ tb := tb_p (List.mem_map.mpr ⟨_, (List.mem_append_left _ (List.mem_of_getElem? (i := 7) rfl)), rfl⟩) rfl
theorem kv_Tg_takePiece : Cond.selects "NonceBox$Tagger" ⟨"NonceBox$Tagger", "takePiece", "([BII)V"⟩ ⟨"NonceBox$Tagger", "takePiece", "([BII)V"⟩ ∈ tb := tb_p (List.mem_map.mpr ⟨_, (List.mem_append_left _ (List.mem_of_getElem? (i := 8) rfl)), rfl⟩) rfl
theorem kv_Fd_foldTop : Cond.selects "NonceBox$Field" ⟨"NonceBox$Field", "foldTop", "([J)V"⟩ ⟨"NonceBox$Field", "foldTop", "([J)V"⟩ ∈ tb := tb_p (List.mem_map.mpr ⟨_, (List.mem_append_left _ (List.mem_of_getElem? (i := 9) rfl)), rfl⟩) rfl
theorem kv_Cv_begin : Cond.selects "NonceBox$Curve" ⟨"NonceBox$Curve", "begin", "([B)V"⟩ ⟨"NonceBox$Curve", "begin", "([B)V"⟩ ∈ tb := tb_p (List.mem_map.mpr ⟨_, (List.mem_append_left _ (List.mem_of_getElem? (i := 10) rfl)), rfl⟩) rfl
theorem kv_Cv_readKey : Cond.selects "NonceBox$Curve" ⟨"NonceBox$Curve", "readKey", "([B)V"⟩ ⟨"NonceBox$Curve", "readKey", "([B)V"⟩ ∈ tb := tb_p (List.mem_map.mpr ⟨_, (List.mem_append_left _ (List.mem_of_getElem? (i := 11) rfl)), rfl⟩) rfl
theorem kv_Cv_step : Cond.selects "NonceBox$Curve" ⟨"NonceBox$Curve", "step", "([J[J[J[J)V"⟩ ⟨"NonceBox$Curve", "step", "([J[J[J[J)V"⟩ ∈ tb := tb_p (List.mem_map.mpr ⟨_, (List.mem_append_left _ (List.mem_of_getElem? (i := 12) rfl)), rfl⟩) rfl
theorem kv_Cv_invert : Cond.selects "NonceBox$Curve" ⟨"NonceBox$Curve", "invert", "([J[J)V"⟩ ⟨"NonceBox$Curve", "invert", "([J[J)V"⟩ ∈ tb := tb_p (List.mem_map.mpr ⟨_, (List.mem_append_left _ (List.mem_of_getElem? (i := 13) rfl)), rfl⟩) rfl
theorem kv_NB_findAgreedKey : Cond.selects "NonceBox" ⟨"NonceBox", "findAgreedKey", "()V"⟩ ⟨"NonceBox", "findAgreedKey", "()V"⟩ ∈ tb := tb_p (List.mem_map.mpr ⟨_, (List.mem_append_left _ (List.mem_of_getElem? (i := 14) rfl)), rfl⟩) rfl
theorem kv_NB_sealBy : Cond.selects "NonceBox" ⟨"NonceBox", "sealBy", "([B)V"⟩ ⟨"NonceBox", "sealBy", "([B)V"⟩ ∈ tb := tb_p (List.mem_map.mpr ⟨_, (List.mem_append_left _ (List.mem_of_getElem? (i := 15) rfl)), rfl⟩) rfl
theorem kv_NB_openBy : Cond.selects "NonceBox" ⟨"NonceBox", "openBy", "([B)Z"⟩ ⟨"NonceBox", "openBy", "([B)Z"⟩ ∈ tb := tb_p (List.mem_map.mpr ⟨_, (List.mem_append_right _ (List.mem_append_left _ (List.mem_of_getElem? (i := 0) rfl))), rfl⟩) rfl
theorem kv_NB_textBeginsAsWork : Cond.selects "NonceBox" ⟨"NonceBox", "textBeginsAsWork", "()Z"⟩ ⟨"NonceBox", "textBeginsAsWork", "()Z"⟩ ∈ tb := tb_p (List.mem_map.mpr ⟨_, (List.mem_append_right _ (List.mem_append_left _ (List.mem_of_getElem? (i := 1) rfl))), rfl⟩) rfl
theorem kv_Md_takeKey : Cond.selects "NonceBoxModel" ⟨"NonceBoxModel", "takeKey", "()V"⟩ ⟨"NonceBoxModel", "takeKey", "()V"⟩ ∈ tb := tb_p (List.mem_map.mpr ⟨_, (List.mem_append_right _ (List.mem_append_left _ (List.mem_of_getElem? (i := 2) rfl))), rfl⟩) rfl
theorem kv_Md_mixKey : Cond.selects "NonceBoxModel" ⟨"NonceBoxModel", "mixKey", "()V"⟩ ⟨"NonceBoxModel", "mixKey", "()V"⟩ ∈ tb := tb_p (List.mem_map.mpr ⟨_, (List.mem_append_right _ (List.mem_append_left _ (List.mem_of_getElem? (i := 3) rfl))), rfl⟩) rfl
theorem kv_Md_stir : Cond.selects "NonceBoxModel" ⟨"NonceBoxModel", "stir", "()V"⟩ ⟨"NonceBoxModel", "stir", "()V"⟩ ∈ tb := tb_p (List.mem_map.mpr ⟨_, (List.mem_append_right _ (List.mem_append_left _ (List.mem_of_getElem? (i := 4) rfl))), rfl⟩) rfl
theorem kv_Md_quarter : Cond.selects "NonceBoxModel" ⟨"NonceBoxModel", "quarter", "(IIII)V"⟩ ⟨"NonceBoxModel", "quarter", "(IIII)V"⟩ ∈ tb := tb_p (List.mem_map.mpr ⟨_, (List.mem_append_right _ (List.mem_append_left _ (List.mem_of_getElem? (i := 5) rfl))), rfl⟩) rfl
theorem kv_Md_outFrom : Cond.selects "NonceBoxModel" ⟨"NonceBoxModel", "outFrom", "([II)V"⟩ ⟨"NonceBoxModel", "outFrom", "([II)V"⟩ ∈ tb := tb_p (List.mem_map.mpr ⟨_, (List.mem_append_right _ (List.mem_append_left _ (List.mem_of_getElem? (i := 6) rfl))), rfl⟩) rfl
theorem kv_Md_beginOut : Cond.selects "NonceBoxModel" ⟨"NonceBoxModel", "beginOut", "(I)V"⟩ ⟨"NonceBoxModel", "beginOut", "(I)V"⟩ ∈ tb := tb_p (List.mem_map.mpr ⟨_, (List.mem_append_right _ (List.mem_append_left _ (List.mem_of_getElem? (i := 7) rfl))), rfl⟩) rfl
theorem kv_Md_flow : Cond.selects "NonceBoxModel" ⟨"NonceBoxModel", "flow", "()V"⟩ ⟨"NonceBoxModel", "flow", "()V"⟩ ∈ tb := tb_p (List.mem_map.mpr ⟨_, (List.mem_append_right _ (List.mem_append_left _ (List.mem_of_getElem? (i := 8) rfl))), rfl⟩) rfl
theorem kv_Md_makeTag : Cond.selects "NonceBoxModel" ⟨"NonceBoxModel", "makeTag", "(I)V"⟩ ⟨"NonceBoxModel", "makeTag", "(I)V"⟩ ∈ tb := tb_p (List.mem_map.mpr ⟨_, (List.mem_append_right _ (List.mem_append_left _ (List.mem_of_getElem? (i := 9) rfl))), rfl⟩) rfl
theorem kv_Md_timesR : Cond.selects "NonceBoxModel" ⟨"NonceBoxModel", "timesR", "()V"⟩ ⟨"NonceBoxModel", "timesR", "()V"⟩ ∈ tb := tb_p (List.mem_map.mpr ⟨_, (List.mem_append_right _ (List.mem_append_left _ (List.mem_of_getElem? (i := 10) rfl))), rfl⟩) rfl
theorem kv_Md_carryTag : Cond.selects "NonceBoxModel" ⟨"NonceBoxModel", "carryTag", "()V"⟩ ⟨"NonceBoxModel", "carryTag", "()V"⟩ ∈ tb := tb_p (List.mem_map.mpr ⟨_, (List.mem_append_right _ (List.mem_append_left _ (List.mem_of_getElem? (i := 11) rfl))), rfl⟩) rfl
theorem kv_Md_finishTag : Cond.selects "NonceBoxModel" ⟨"NonceBoxModel", "finishTag", "()V"⟩ ⟨"NonceBoxModel", "finishTag", "()V"⟩ ∈ tb := tb_p (List.mem_map.mpr ⟨_, (List.mem_append_right _ (List.mem_append_left _ (List.mem_of_getElem? (i := 12) rfl))), rfl⟩) rfl
theorem kv_Md_multipleKey : Cond.selects "NonceBoxModel" ⟨"NonceBoxModel", "multipleKey", "()V"⟩ ⟨"NonceBoxModel", "multipleKey", "()V"⟩ ∈ tb := tb_p (List.mem_map.mpr ⟨_, (List.mem_append_right _ (List.mem_append_left _ (List.mem_of_getElem? (i := 13) rfl))), rfl⟩) rfl
theorem kv_Md_set : Cond.selects "NonceBoxModel" ⟨"NonceBoxModel", "set", "(IJ)V"⟩ ⟨"NonceBoxModel", "set", "(IJ)V"⟩ ∈ tb := tb_p (List.mem_map.mpr ⟨_, (List.mem_append_right _ (List.mem_append_left _ (List.mem_of_getElem? (i := 14) rfl))), rfl⟩) rfl
theorem kv_Md_copy : Cond.selects "NonceBoxModel" ⟨"NonceBoxModel", "copy", "(II)V"⟩ ⟨"NonceBoxModel", "copy", "(II)V"⟩ ∈ tb := tb_p (List.mem_map.mpr ⟨_, (List.mem_append_right _ (List.mem_append_left _ (List.mem_of_getElem? (i := 15) rfl))), rfl⟩) rfl
theorem kv_Md_swap : Cond.selects "NonceBoxModel" ⟨"NonceBoxModel", "swap", "(II)V"⟩ ⟨"NonceBoxModel", "swap", "(II)V"⟩ ∈ tb := tb_p (List.mem_map.mpr ⟨_, (List.mem_append_right _ (List.mem_append_right _ (List.mem_of_getElem? (i := 0) rfl))), rfl⟩) rfl
theorem kv_Md_ladder : Cond.selects "NonceBoxModel" ⟨"NonceBoxModel", "ladder", "()V"⟩ ⟨"NonceBoxModel", "ladder", "()V"⟩ ∈ tb := tb_p (List.mem_map.mpr ⟨_, (List.mem_append_right _ (List.mem_append_right _ (List.mem_of_getElem? (i := 1) rfl))), rfl⟩) rfl
theorem kv_Md_add : Cond.selects "NonceBoxModel" ⟨"NonceBoxModel", "add", "(III)V"⟩ ⟨"NonceBoxModel", "add", "(III)V"⟩ ∈ tb := tb_p (List.mem_map.mpr ⟨_, (List.mem_append_right _ (List.mem_append_right _ (List.mem_of_getElem? (i := 2) rfl))), rfl⟩) rfl
theorem kv_Md_carry : Cond.selects "NonceBoxModel" ⟨"NonceBoxModel", "carry", "(I)V"⟩ ⟨"NonceBoxModel", "carry", "(I)V"⟩ ∈ tb := tb_p (List.mem_map.mpr ⟨_, (List.mem_append_right _ (List.mem_append_right _ (List.mem_of_getElem? (i := 3) rfl))), rfl⟩) rfl
theorem kv_Md_subtract : Cond.selects "NonceBoxModel" ⟨"NonceBoxModel", "subtract", "(III)V"⟩ ⟨"NonceBoxModel", "subtract", "(III)V"⟩ ∈ tb := tb_p (List.mem_map.mpr ⟨_, (List.mem_append_right _ (List.mem_append_right _ (List.mem_of_getElem? (i := 4) rfl))), rfl⟩) rfl
theorem kv_Md_times : Cond.selects "NonceBoxModel" ⟨"NonceBoxModel", "times", "(III)V"⟩ ⟨"NonceBoxModel", "times", "(III)V"⟩ ∈ tb := tb_p (List.mem_map.mpr ⟨_, (List.mem_append_right _ (List.mem_append_right _ (List.mem_of_getElem? (i := 5) rfl))), rfl⟩) rfl
theorem kv_Md_finish : Cond.selects "NonceBoxModel" ⟨"NonceBoxModel", "finish", "(I)V"⟩ ⟨"NonceBoxModel", "finish", "(I)V"⟩ ∈ tb := tb_p (List.mem_map.mpr ⟨_, (List.mem_append_right _ (List.mem_append_right _ (List.mem_of_getElem? (i := 6) rfl))), rfl⟩) rfl
theorem kv_Md_agreeKey : Cond.selects "NonceBoxModel" ⟨"NonceBoxModel", "agreeKey", "()V"⟩ ⟨"NonceBoxModel", "agreeKey", "()V"⟩ ∈ tb := tb_p (List.mem_map.mpr ⟨_, (List.mem_append_right _ (List.mem_append_right _ (List.mem_of_getElem? (i := 7) rfl))), rfl⟩) rfl
theorem kv_Md_sealIt : Cond.selects "NonceBoxModel" ⟨"NonceBoxModel", "sealIt", "()I"⟩ ⟨"NonceBoxModel", "sealIt", "()I"⟩ ∈ tb := tb_p (List.mem_map.mpr ⟨_, (List.mem_append_right _ (List.mem_append_right _ (List.mem_of_getElem? (i := 8) rfl))), rfl⟩) rfl
theorem kv_Md_tagKey : Cond.selects "NonceBoxModel" ⟨"NonceBoxModel", "tagKey", "()V"⟩ ⟨"NonceBoxModel", "tagKey", "()V"⟩ ∈ tb := tb_p (List.mem_map.mpr ⟨_, (List.mem_append_right _ (List.mem_append_right _ (List.mem_of_getElem? (i := 9) rfl))), rfl⟩) rfl
theorem kv_Md_openIt : Cond.selects "NonceBoxModel" ⟨"NonceBoxModel", "openIt", "()I"⟩ ⟨"NonceBoxModel", "openIt", "()I"⟩ ∈ tb := tb_p (List.mem_map.mpr ⟨_, (List.mem_append_right _ (List.mem_append_right _ (List.mem_of_getElem? (i := 10) rfl))), rfl⟩) rfl
end
section
/-! A layer over the kit's moving worlds: one world of n cells, cell k at the address ad k, holding ev k. -/
def wv (n : Nat) (ad : Nat → Nat) (ev : Nat → va_E) : va_W := (List.range n).map fun k => (ad k, ev k)
theorem wv_at {n : Nat} {ad : Nat → Nat} {ev : Nat → va_E} {k : Nat} (h : k < n) : (wv n ad ev)[k]? = some (ad k, ev k) := by
  simp [wv, h]
theorem wv_out {n : Nat} {ad : Nat → Nat} {ev : Nat → va_E} {k : Nat} (h : ¬ k < n) : (wv n ad ev)[k]? = none := by
  simp [wv]; omega
theorem wv_up {n : Nat} {ad : Nat → Nat} {ev : Nat → va_E} {k : Nat} {x : va_E} (hk : k < n) : (wv n ad ev).set k (ad k, x) = wv n ad (va_up ev k x) := by
  apply List.ext_getElem?
  intro i
  rw [List.getElem?_set]
  by_cases hi : i < n
  · rw [wv_at hi, wv_at hi]
    by_cases hik : k = i
    · subst hik
      rw [if_pos rfl, if_pos (by simp [wv]; exact hk), va_up_self]
    · rw [if_neg hik, va_up_ne ev x (fun q => hik q.symm)]
  · rw [wv_out hi, wv_out hi]
    by_cases hik : k = i
    · subst hik
      exact absurd hk hi
    · rw [if_neg hik]
theorem wv_push {n : Nat} {ad : Nat → Nat} {ev : Nat → va_E} {q : Nat} {x : va_E} : wv n ad ev ++ [(q, x)] = wv (n + 1) (va_up ad n q) (va_up ev n x) := by
  unfold wv
  rw [List.range_succ, List.map_append]
  congr 1
  · apply List.map_congr_left
    intro a ha
    have := List.mem_range.mp ha
    rw [va_up_ne ad q (by omega), va_up_ne ev x (by omega)]
  · simp [va_up]
theorem wv_congr {n : Nat} {ad ad' : Nat → Nat} {ev ev' : Nat → va_E} (h : ∀ k, k < n → ad k = ad' k) (h2 : ∀ k, k < n → ev k = ev' k) : wv n ad ev = wv n ad' ev' := by
  unfold wv
  apply List.map_congr_left
  intro a ha
  have := List.mem_range.mp ha
  rw [h a this, h2 a this]
abbrev wG : Type := va_G × ClassId × ClassId × ClassId
def wty (G : wG) : List (ClassId × FieldType) := [(G.2.1, .byte), (G.2.2.1, .int), (G.2.2.2, .long)]
abbrev eB (G : wG) (n : Nat) (f : Nat → Int32) : va_E := .inl (G.2.1, n, .inl f)
abbrev eI (G : wG) (n : Nat) (f : Nat → Int32) : va_E := .inl (G.2.2.1, n, .inl f)
abbrev eJ (G : wG) (n : Nat) (f : Nat → Int64) : va_E := .inl (G.2.2.2, n, .inr (.inl f))
abbrev eO (ci : Nat) (fs : List Value) : va_E := .inr (ci, fs)
def wS (G : wG) (A : Nat → Prop) (n : Nat) (ad : Nat → Nat) (ev : Nat → va_E) (U : State) (H : Heap) : Prop := va_K G.1 vwCl (wty G) U ∧ va_P G.1 vwCl (wv n ad ev) H ∧ va_D A (wv n ad ev)
def wT (G : wG) (A : Nat → Prop) (n : Nat) (ad : Nat → Nat) (ev : Nat → va_E) (s : State) (H : Heap) (locs : List Loc) : Prop := wS G A n ad ev s H ∧ va_S A s.heap H locs ∧ ∀ q : Nat, s.heap.size ≤ q → A q
def wPc (G : wG) (A : Nat → Prop) (n : Nat) (ad : Nat → Nat) (ev : Nat → va_E) (av : List Value) : Array Value → State → Prop := fun v U => v = av.toArray ∧ wS G A n ad ev U U.heap ∧ ∀ q : Nat, U.heap.size ≤ q → A q
def wQc (G : wG) (A : Nat → Prop) (n : Nat) (ad : Nat → Nat) (post : Option Value → (Nat → va_E) → Prop) : Array Value → State → Outcome → State → Prop := fun _ st oc t => (∃ (ov : Option Value) (ev' : Nat → va_E), oc = .returned ov ∧ post ov ev' ∧ wS G A n ad ev' t t.heap) ∧ va_F A st t
/-- the end of a method that makes cells: the world has grown -/
def wQn (G : wG) (A : Nat → Prop) (post : Option Value → Nat → (Nat → Nat) → (Nat → va_E) → Prop) : Array Value → State → Outcome → State → Prop := fun _ st oc t => (∃ (ov : Option Value) (n' : Nat) (ad' : Nat → Nat) (ev' : Nat → va_E), oc = .returned ov ∧ post ov n' ad' ev' ∧ wS G A n' ad' ev' t t.heap) ∧ va_F A st t
/-- a contract of a method that makes no cell -/
abbrev wM (l : Launch) (y : MethodName) (ws : List Cond) (rm : Room) (G : wG) (A : Nat → Prop) (n : Nat) (ad : Nat → Nat) (ev : Nat → va_E) (av : List Value) (post : Option Value → (Nat → va_E) → Prop) : Prop := Met l y ws rm (wPc G A n ad ev av) (wQc G A n ad post) 0 0 A
/-- a contract of a method that makes mc cells of ms slots -/
abbrev wN (l : Launch) (y : MethodName) (ws : List Cond) (rm : Room) (G : wG) (A : Nat → Prop) (n : Nat) (ad : Nat → Nat) (ev : Nat → va_E) (av : List Value) (mc ms : Nat) (post : Option Value → Nat → (Nat → Nat) → (Nat → va_E) → Prop) : Prop := Met l y ws rm (wPc G A n ad ev av) (wQn G A post) mc ms A
theorem wPc_blind {G : wG} {A : Nat → Prop} {n : Nat} {ad : Nat → Nat} {ev : Nat → va_E} {av : List Value} : FrameBlind (wPc G A n ad ev av) := by
  intro a U g mk q
  obtain ⟨q0, ⟨qK, qP, qD⟩, q2⟩ := q
  exact ⟨q0, ⟨va_K.moved (u := U) (U := U.calling g mk a) (Vm.Alike.refl U.vm) qK, qP, qD⟩, q2⟩
section WVB
variable {p : Program} {l : Launch} {e : Env} {R : Room} {s : State} {m : MethodId} {args : Array Value} {below : List Frame} {meth : Method} {c : Code} {H : Heap} {locs : List Loc} {cells slots : Nat} {Q : State → Prop} {cc : ByteArray} {pc : Nat} {ls : Array Slot} {rest st0 : List Value} {G : wG} {A : Nat → Prop} {n : Nat} {ad : Nat → Nat} {ev : Nat → va_E}
theorem wT.preS {av : List Value} (h : wT G A n ad ev s H locs) : PreS s H (wPc G A n ad ev av) av := by
  obtain ⟨⟨hK, hP, hD⟩, hS, hA⟩ := h
  exact ⟨wPc_blind, fun U hU hW => ⟨rfl, ⟨va_K.moved hW.alike hK, by rw [hU]; exact hP, hD⟩, fun q hq => hA q (Nat.le_trans hS.1 (by rw [hU] at hq; exact hq))⟩⟩
theorem wT.preV {As : List Value} (h : wT G A n ad ev s H locs) (q : Nat) (hq : q < n) {ci : Nat} {fs : List Value} {C : String} {T : u_T} {N : Nat} (hev : ev q = eO ci fs) (hc : vwCl[ci]? = some (C, T, N)) : PreV s H C (ad q) (wPc G A n ad ev (.ref (ad q) :: As)) As := by
  obtain ⟨hb, hp⟩ := h.preS (av := .ref (ad q) :: As)
  exact ⟨hb, va_recv h.1.1 h.1.2.1 hc (q0 := q) (by rw [wv_at hq, hev]), hp⟩
theorem wv_call {mc ms : Nat} {a : Array Value} {post : Option Value → (Nat → va_E) → Prop} (h : wT G A n ad ev s H locs) (hr : va_Run p l e R s m args below meth c H locs cells slots mc ms (F0 m pc ls st0) rest (wQc G A n ad post a) A)
    (kk : ∀ (ov : Option Value) (ev' : Nat → va_E) (H1 : Heap) (locs1 : List Loc), post ov ev' → wT G A n ad ev' s H1 locs1 → W p l e R s m args below meth c H1 locs1 (cells + mc) (slots + ms) Q (F0 m (pc + 3) ls (ov.toList ++ rest))) : W p l e R s m args below meth c H locs cells slots Q (F0 m pc ls st0) := by
  intro T hT X
  obtain ⟨v, st₀, t, T', L, h0, X', hL, e1, e2, ⟨⟨ov, ev', hv, hp, hK1, hP1, hD1⟩, hz, hk⟩, st⟩ := hr T hT X
  cases hv
  rw [h0] at hz hk
  obtain ⟨⟨hK, hP, hD⟩, hS, hA⟩ := h
  have hal : s.vm.Alike t.vm := by rw [← e2]; exact X'.warmed.alike
  obtain ⟨t2, a1, b1⟩ := kk v ev' T'.heap (locs ++ L) hp ⟨⟨va_K.moved hal.symm hK1, by rw [e1]; exact hP1, hD1⟩, ⟨Nat.le_trans hS.1 (by rw [e1]; exact hz), fun q h1 h2 => by rw [e1, hk q (Nat.lt_of_lt_of_le h1 hS.1) h2]; exact hS.2.1 q h1 h2, fun q hq => by
      rcases List.mem_append.mp hq with h | h
      · exact hS.2.2 q h
      · exact hL q h⟩, hA⟩ T' rfl X'
  exact ⟨t2, st t2 a1, b1⟩
theorem wv_calln {mc ms : Nat} {a : Array Value} {post : Option Value → Nat → (Nat → Nat) → (Nat → va_E) → Prop} (h : wT G A n ad ev s H locs) (hr : va_Run p l e R s m args below meth c H locs cells slots mc ms (F0 m pc ls st0) rest (wQn G A post a) A)
    (kk : ∀ (ov : Option Value) (n' : Nat) (ad' : Nat → Nat) (ev' : Nat → va_E) (H1 : Heap) (locs1 : List Loc), post ov n' ad' ev' → wT G A n' ad' ev' s H1 locs1 → W p l e R s m args below meth c H1 locs1 (cells + mc) (slots + ms) Q (F0 m (pc + 3) ls (ov.toList ++ rest))) : W p l e R s m args below meth c H locs cells slots Q (F0 m pc ls st0) := by
  intro T hT X
  obtain ⟨v, st₀, t, T', L, h0, X', hL, e1, e2, ⟨⟨ov, n', ad', ev', hv, hp, hK1, hP1, hD1⟩, hz, hk⟩, st⟩ := hr T hT X
  cases hv
  rw [h0] at hz hk
  obtain ⟨⟨hK, hP, hD⟩, hS, hA⟩ := h
  have hal : s.vm.Alike t.vm := by rw [← e2]; exact X'.warmed.alike
  obtain ⟨t2, a1, b1⟩ := kk v n' ad' ev' T'.heap (locs ++ L) hp ⟨⟨va_K.moved hal.symm hK1, by rw [e1]; exact hP1, hD1⟩, ⟨Nat.le_trans hS.1 (by rw [e1]; exact hz), fun q h1 h2 => by rw [e1, hk q (Nat.lt_of_lt_of_le h1 hS.1) h2]; exact hS.2.1 q h1 h2, fun q hq => by
      rcases List.mem_append.mp hq with h | h
      · exact hS.2.2 q h
      · exact hL q h⟩, hA⟩ T' rfl X'
  exact ⟨t2, st t2 a1, b1⟩
theorem wv_ofW {y : MethodName} {ws ws' : List Cond} {rm : Room} {maxL : Nat} {ret : Option FieldType} {av : List Value} {Qc : Array Value → State → Outcome → State → Prop} {mc ms : Nat} (hy : plainName y.cls = true) (hw : ws = Cond.code y cc maxL ret :: ws') (hlen : (lg_sl av).length ≤ maxL)
    (body : ∀ (p : Program) (e : Env) (s : State) (m : MethodId) (below : List Frame) (meth : Method) (c : Code) (ls : Array Slot), p.tables.exec = Jvm.exec → c.code = cc → meth.sig.returnType = ret → c.maxLocals = maxL → (∀ w ∈ ws, w.before av.toArray s = true) → s.vm.findClass y.cls = some m.cls → meth.locks = false → (y.name = "<init>" → meth.name = "<init>") → wT G A n ad ev s s.heap [] → lv_has ls maxL (lv_args 0 av) →
      W p l e rm s m av.toArray below meth c s.heap [] 0 0 (MQ below Qc av.toArray s mc ms A) (F0 m 0 ls [])) : Met l y ws rm (wPc G A n ad ev av) Qc mc ms A := by
  refine Met.ofW (cc := cc) (maxL := maxL) (ret := ret) hy hw ?_
  intro p e s m args below meth c s₁ B hml hv
  obtain ⟨rfl, ⟨hK, hP, hD⟩, hA⟩ := hv
  have hl := lv_entry av (n := maxL) hlen
  rw [lg_entry_eq]
  generalize (lg_sl av ++ List.replicate (maxL - (lg_sl av).length) Slot.unset).toArray = ls at hl ⊢
  exact body p e s m below meth c ls B.exec B.bytes B.returns hml (atoms_spec (ws := ws) B.pre) (findClass_of_methodNamed B.named) B.notSynchronized (fun hi => (name_of_methodNamed B.named B.method).1.trans hi) ⟨⟨hK, hP, hD⟩, va_S.rf, hA⟩ hl
theorem wv_vret {post : Option Value → (Nat → va_E) → Prop} (hx : p.tables.exec = Jvm.exec) (hb : c.code = cc) (hr : meth.sig.returnType = none) (hlocks : meth.locks = false) (h : wT G A n ad ev s H locs) (hdg : decode cc pc = .ok (.return_, 1)) (hp : post none ev) : W p l e R s m args below meth c H locs cells slots (MQ below (wQc G A n ad post) args s cells slots A) (F0 m pc ls []) :=
  W.vret hx hb hr (fun t ht hW => ⟨⟨none, ev, rfl, hp, va_K.moved hW.alike h.1.1, by rw [ht]; exact h.1.2.1, h.1.2.2⟩, h.2.1.F ht⟩) h.2.1.2.2 hdg hlocks
theorem wv_iret {v : Int32} {post : Option Value → (Nat → va_E) → Prop} (hx : p.tables.exec = Jvm.exec) (hb : c.code = cc) (hr : meth.sig.returnType = some .int) (hlocks : meth.locks = false) (h : wT G A n ad ev s H locs) (hdg : decode cc pc = .ok (.ireturn, 1)) (hp : post (some (.int v)) ev) : W p l e R s m args below meth c H locs cells slots (MQ below (wQc G A n ad post) args s cells slots A) (F0 m pc ls [.int v]) :=
  W.iret hx hb hr (fun t ht hW => ⟨⟨_, ev, rfl, hp, va_K.moved hW.alike h.1.1, by rw [ht]; exact h.1.2.1, h.1.2.2⟩, h.2.1.F ht⟩) h.2.1.2.2 hdg hlocks
theorem wv_zret {v : Int32} {ty : FieldType} {post : Option Value → (Nat → va_E) → Prop} (hx : p.tables.exec = Jvm.exec) (hb : c.code = cc) (hr : meth.sig.returnType = some ty) (hlocks : meth.locks = false) (h : wT G A n ad ev s H locs) (hdg : decode cc pc = .ok (.ireturn, 1)) (hn : narrow ty (.int v) = .int v) (hp : post (some (.int v)) ev) : W p l e R s m args below meth c H locs cells slots (MQ below (wQc G A n ad post) args s cells slots A) (F0 m pc ls [.int v]) :=
  W.zret hx hb hr hn (fun t ht hW => ⟨⟨_, ev, rfl, hp, va_K.moved hW.alike h.1.1, by rw [ht]; exact h.1.2.1, h.1.2.2⟩, h.2.1.F ht⟩) h.2.1.2.2 hdg hlocks
theorem wv_lret {v : Int64} {post : Option Value → (Nat → va_E) → Prop} (hx : p.tables.exec = Jvm.exec) (hb : c.code = cc) (hr : meth.sig.returnType = some .long) (hlocks : meth.locks = false) (h : wT G A n ad ev s H locs) (hdg : decode cc pc = .ok (.lreturn, 1)) (hp : post (some (.long v)) ev) : W p l e R s m args below meth c H locs cells slots (MQ below (wQc G A n ad post) args s cells slots A) (F0 m pc ls [.long v]) :=
  W.lret hx hb hr (fun t ht hW => ⟨⟨_, ev, rfl, hp, va_K.moved hW.alike h.1.1, by rw [ht]; exact h.1.2.1, h.1.2.2⟩, h.2.1.F ht⟩) h.2.1.2.2 hdg hlocks
theorem wv_aret {v : Value} {rt : FieldType} {post : Option Value → (Nat → va_E) → Prop} (hx : p.tables.exec = Jvm.exec) (hb : c.code = cc) (hr : meth.sig.returnType = some rt) (hlocks : meth.locks = false) (h : wT G A n ad ev s H locs) (hdg : decode cc pc = .ok (.areturn, 1)) (hrt : (∃ n, rt = .object n) ∨ ∃ t, rt = .array t) (hv : v = .null ∨ ∃ a, v = .ref a) (hp : post (some v) ev) : W p l e R s m args below meth c H locs cells slots (MQ below (wQc G A n ad post) args s cells slots A) (F0 m pc ls [v]) :=
  W.aret hx hb hr hrt hv (fun t ht hW => ⟨⟨_, ev, rfl, hp, va_K.moved hW.alike h.1.1, by rw [ht]; exact h.1.2.1, h.1.2.2⟩, h.2.1.F ht⟩) h.2.1.2.2 hdg hlocks
/-! heap rows: the cell's place q; an index that is nI k -/
theorem wv_bald (hx : p.tables.exec = Jvm.exec) (hb : c.code = cc) (h : wT G A n ad ev s H locs) (q : Nat) (hq : q < n) {N : Nat} {f : Nat → Int32} (hev : ev q = eB G N f) {i : Int32} {k : Nat} (hi : i = nI k) (hk : k < N) (hN : N < 2 ^ 31) (hdg : decode cc pc = .ok (.baload, 1))
    (kk : W p l e R s m args below meth c H locs cells slots Q (F0 m (pc + 1) ls (.int (f k) :: rest))) : W p l e R s m args below meth c H locs cells slots Q (F0 m pc ls (.int i :: .ref (ad q) :: rest)) := by
  subst hi
  refine va_bald hx hb h.1.1 h.1.2.1 q 0 (by rw [wv_at hq, hev]) rfl (vp_in_nI hk hN) hdg ?_
  rw [nI_clamp (by omega)]
  exact kk
theorem wv_iald (hx : p.tables.exec = Jvm.exec) (hb : c.code = cc) (h : wT G A n ad ev s H locs) (q : Nat) (hq : q < n) {N : Nat} {f : Nat → Int32} (hev : ev q = eI G N f) {i : Int32} {k : Nat} (hi : i = nI k) (hk : k < N) (hN : N < 2 ^ 31) (hdg : decode cc pc = .ok (.iaload, 1))
    (kk : W p l e R s m args below meth c H locs cells slots Q (F0 m (pc + 1) ls (.int (f k) :: rest))) : W p l e R s m args below meth c H locs cells slots Q (F0 m pc ls (.int i :: .ref (ad q) :: rest)) := by
  subst hi
  refine va_iald hx hb h.1.1 h.1.2.1 q 1 (by rw [wv_at hq, hev]) rfl (vp_in_nI hk hN) hdg ?_
  rw [nI_clamp (by omega)]
  exact kk
theorem wv_lald (hx : p.tables.exec = Jvm.exec) (hb : c.code = cc) (h : wT G A n ad ev s H locs) (q : Nat) (hq : q < n) {N : Nat} {f : Nat → Int64} (hev : ev q = eJ G N f) {i : Int32} {k : Nat} (hi : i = nI k) (hk : k < N) (hN : N < 2 ^ 31) (hdg : decode cc pc = .ok (.laload, 1))
    (kk : W p l e R s m args below meth c H locs cells slots Q (F0 m (pc + 1) ls (.long (f k) :: rest))) : W p l e R s m args below meth c H locs cells slots Q (F0 m pc ls (.int i :: .ref (ad q) :: rest)) := by
  subst hi
  refine va_lald hx hb h.1.1 h.1.2.1 q 2 (by rw [wv_at hq, hev]) rfl (vp_in_nI hk hN) hdg ?_
  rw [nI_clamp (by omega)]
  exact kk
theorem wv_bast (hx : p.tables.exec = Jvm.exec) (hb : c.code = cc) (h : wT G A n ad ev s H locs) (q : Nat) (hq : q < n) {N : Nat} {f : Nat → Int32} (hev : ev q = eB G N f) {i x : Int32} {k : Nat} (hi : i = nI k) (hk : k < N) (hN : N < 2 ^ 31) (hdg : decode cc pc = .ok (.bastore, 1))
    (kk : ∀ (H1 : Heap) (locs1 : List Loc), wT G A n ad (va_up ev q (eB G N (va_up f k (vp_nar .byte x)))) s H1 locs1 → W p l e R s m args below meth c H1 locs1 cells slots Q (F0 m (pc + 1) ls rest)) : W p l e R s m args below meth c H locs cells slots Q (F0 m pc ls (.int x :: .int i :: .ref (ad q) :: rest)) := by
  subst hi
  refine va_bast hx hb h.1.1 h.1.2.1 h.1.2.2 h.2.1 q 0 (by rw [wv_at hq, hev]) rfl (vp_in_nI hk hN) hdg (fun H1 locs1 hP hD hS => ?_)
  rw [nI_clamp (by omega), wv_up hq] at hP hD
  exact kk H1 locs1 ⟨⟨h.1.1, hP, hD⟩, hS, h.2.2⟩
theorem wv_iast (hx : p.tables.exec = Jvm.exec) (hb : c.code = cc) (h : wT G A n ad ev s H locs) (q : Nat) (hq : q < n) {N : Nat} {f : Nat → Int32} (hev : ev q = eI G N f) {i x : Int32} {k : Nat} (hi : i = nI k) (hk : k < N) (hN : N < 2 ^ 31) (hdg : decode cc pc = .ok (.iastore, 1))
    (kk : ∀ (H1 : Heap) (locs1 : List Loc), wT G A n ad (va_up ev q (eI G N (va_up f k x))) s H1 locs1 → W p l e R s m args below meth c H1 locs1 cells slots Q (F0 m (pc + 1) ls rest)) : W p l e R s m args below meth c H locs cells slots Q (F0 m pc ls (.int x :: .int i :: .ref (ad q) :: rest)) := by
  subst hi
  refine va_iast hx hb h.1.1 h.1.2.1 h.1.2.2 h.2.1 q 1 (by rw [wv_at hq, hev]) rfl (vp_in_nI hk hN) hdg (fun H1 locs1 hP hD hS => ?_)
  rw [nI_clamp (by omega), wv_up hq] at hP hD
  exact kk H1 locs1 ⟨⟨h.1.1, hP, hD⟩, hS, h.2.2⟩
theorem wv_last (hx : p.tables.exec = Jvm.exec) (hb : c.code = cc) (h : wT G A n ad ev s H locs) (q : Nat) (hq : q < n) {N : Nat} {f : Nat → Int64} (hev : ev q = eJ G N f) {i : Int32} {x : Int64} {k : Nat} (hi : i = nI k) (hk : k < N) (hN : N < 2 ^ 31) (hdg : decode cc pc = .ok (.lastore, 1))
    (kk : ∀ (H1 : Heap) (locs1 : List Loc), wT G A n ad (va_up ev q (eJ G N (va_up f k x))) s H1 locs1 → W p l e R s m args below meth c H1 locs1 cells slots Q (F0 m (pc + 1) ls rest)) : W p l e R s m args below meth c H locs cells slots Q (F0 m pc ls (.long x :: .int i :: .ref (ad q) :: rest)) := by
  subst hi
  refine va_last hx hb h.1.1 h.1.2.1 h.1.2.2 h.2.1 q 2 (by rw [wv_at hq, hev]) rfl (vp_in_nI hk hN) hdg (fun H1 locs1 hP hD hS => ?_)
  rw [nI_clamp (by omega), wv_up hq] at hP hD
  exact kk H1 locs1 ⟨⟨h.1.1, hP, hD⟩, hS, h.2.2⟩
end WVB
section WVC
variable {p : Program} {l : Launch} {e : Env} {R : Room} {s : State} {m : MethodId} {args : Array Value} {below : List Frame} {meth : Method} {c : Code} {H : Heap} {locs : List Loc} {cells slots : Nat} {Q : State → Prop} {cc : ByteArray} {pc : Nat} {ls : Array Slot} {rest st0 : List Value} {G : wG} {A : Nat → Prop} {n : Nat} {ad : Nat → Nat} {ev : Nat → va_E}
theorem wv_getf (hx : p.tables.exec = Jvm.exec) (hb : c.code = cc) (h : wT G A n ad ev s H locs) (q : Nat) (hq : q < n) {ci : Nat} {fs : List Value} (hev : ev q = eO ci fs) {own ref C : String} {T : u_T} {N index : Nat} {Ts : List Cond} (hts : ∀ w ∈ Ts, w.before args s = true) (hin : ∀ w ∈ u_ws C T N, w ∈ Ts) (hown : s.vm.findClass own = some m.cls) (hc : vwCl[ci]? = some (C, T, N)) (k : Nat) (hk : k < N) (hlink : (Cond.fieldLink own index ref (T k).2.1 (T k).2.2.1).before args s = true) (hsame : (T k).1 = ref) {v : Value} (hv : fs[k]? = some v) (hdg : decode cc pc = .ok (.getfield index, 3))
    (kk : W p l e R s m args below meth c H locs cells slots Q (F0 m (pc + 3) ls (v :: rest))) : W p l e R s m args below meth c H locs cells slots Q (F0 m pc ls (.ref (ad q) :: rest)) :=
  va_get hx hb hts hin hown h.1.1 h.1.2.1 q (by rw [wv_at hq, hev]) hc k hk hlink (fun x hx => by rw [← hsame]; exact hx) hv hdg kk
theorem wv_putf (hx : p.tables.exec = Jvm.exec) (hb : c.code = cc) (h : wT G A n ad ev s H locs) (q : Nat) (hq : q < n) {ci : Nat} {fs : List Value} (hev : ev q = eO ci fs) {own ref C : String} {T : u_T} {N index : Nat} {Ts : List Cond} (hts : ∀ w ∈ Ts, w.before args s = true) (hin : ∀ w ∈ u_ws C T N, w ∈ Ts) (ty0 : Nat → FieldType) (hty : ∀ k, k < N → parseFieldDescriptor (T k).2.2.1 = some (ty0 k)) (hnm : ∀ a, a < N → ∀ b, b < N → a ≠ b → (T a).2.1 ≠ (T b).2.1) (hown : s.vm.findClass own = some m.cls) (hc : vwCl[ci]? = some (C, T, N)) (k : Nat) (hk : k < N) (hlink : (Cond.fieldLink own index ref (T k).2.1 (T k).2.2.1).before args s = true) (hsame : (T k).1 = ref) (hfin : (T k).2.2.2 = false) {v : Value} (hn : narrow (ty0 k) v = v) (hfit : fits (ty0 k) v = true) (hl : k < fs.length)
    (hdg : decode cc pc = .ok (.putfield index, 3)) (kk : ∀ (H1 : Heap) (locs1 : List Loc), wT G A n ad (va_up ev q (eO ci (fs.set k v))) s H1 locs1 → W p l e R s m args below meth c H1 locs1 cells slots Q (F0 m (pc + 3) ls rest)) : W p l e R s m args below meth c H locs cells slots Q (F0 m pc ls (v :: .ref (ad q) :: rest)) := by
  refine va_put hx hb hts hin ty0 hty hnm hown h.1.1 h.1.2.1 h.1.2.2 h.2.1 q (by rw [wv_at hq, hev]) hc k hk hlink (fun x hx => by rw [← hsame]; exact hx) hfin (hty k hk) hn hfit hl hdg (fun H1 locs1 hP hD hS => ?_)
  rw [wv_up hq] at hP hD
  exact kk H1 locs1 ⟨⟨h.1.1, hP, hD⟩, hS, h.2.2⟩
theorem wv_putF (hx : p.tables.exec = Jvm.exec) (hb : c.code = cc) (h : wT G A n ad ev s H locs) (q : Nat) (hq : q < n) {ci : Nat} {fs : List Value} (hev : ev q = eO ci fs) {own ref C : String} {T : u_T} {N index : Nat} {Ts : List Cond} (hts : ∀ w ∈ Ts, w.before args s = true) (hin : ∀ w ∈ u_ws C T N, w ∈ Ts) (ty0 : Nat → FieldType) (hty : ∀ k, k < N → parseFieldDescriptor (T k).2.2.1 = some (ty0 k)) (hnm : ∀ a, a < N → ∀ b, b < N → a ≠ b → (T a).2.1 ≠ (T b).2.1) (hown : s.vm.findClass own = some m.cls) (hc : vwCl[ci]? = some (C, T, N)) (k : Nat) (hk : k < N) (hlink : (Cond.fieldLink own index ref (T k).2.1 (T k).2.2.1).before args s = true) (hsame : (T k).1 = ref) (hfin : (T k).2.2.2 = true) (hin2 : meth.name = "<init>") (hdecl : (T k).1 = own) {v : Value} (hn : narrow (ty0 k) v = v) (hfit : fits (ty0 k) v = true) (hl : k < fs.length)
    (hdg : decode cc pc = .ok (.putfield index, 3)) (kk : ∀ (H1 : Heap) (locs1 : List Loc), wT G A n ad (va_up ev q (eO ci (fs.set k v))) s H1 locs1 → W p l e R s m args below meth c H1 locs1 cells slots Q (F0 m (pc + 3) ls rest)) : W p l e R s m args below meth c H locs cells slots Q (F0 m pc ls (v :: .ref (ad q) :: rest)) := by
  refine va_putF hx hb hts hin ty0 hty hnm hown h.1.1 h.1.2.1 h.1.2.2 h.2.1 q (by rw [wv_at hq, hev]) hc k hk hlink (fun x hx => by rw [← hsame]; exact hx) hfin hin2 hdecl (hty k hk) hn hfit hl hdg (fun H1 locs1 hP hD hS => ?_)
  rw [wv_up hq] at hP hD
  exact kk H1 locs1 ⟨⟨h.1.1, hP, hD⟩, hS, h.2.2⟩
theorem wv_alenB (hx : p.tables.exec = Jvm.exec) (hb : c.code = cc) (h : wT G A n ad ev s H locs) (q : Nat) (hq : q < n) {N : Nat} {f : Nat → Int32} (hev : ev q = eB G N f) (hdg : decode cc pc = .ok (.arraylength, 1))
    (kk : W p l e R s m args below meth c H locs cells slots Q (F0 m (pc + 1) ls (.int (nI N) :: rest))) : W p l e R s m args below meth c H locs cells slots Q (F0 m pc ls (.ref (ad q) :: rest)) :=
  va_alen (x := (N, .inl f)) hx hb h.1.1 h.1.2.1 q 0 (by rw [wv_at hq, hev]) rfl rfl hdg kk
theorem wv_alenI (hx : p.tables.exec = Jvm.exec) (hb : c.code = cc) (h : wT G A n ad ev s H locs) (q : Nat) (hq : q < n) {N : Nat} {f : Nat → Int32} (hev : ev q = eI G N f) (hdg : decode cc pc = .ok (.arraylength, 1))
    (kk : W p l e R s m args below meth c H locs cells slots Q (F0 m (pc + 1) ls (.int (nI N) :: rest))) : W p l e R s m args below meth c H locs cells slots Q (F0 m pc ls (.ref (ad q) :: rest)) :=
  va_alen (x := (N, .inl f)) hx hb h.1.1 h.1.2.1 q 1 (by rw [wv_at hq, hev]) rfl rfl hdg kk
theorem wv_alenJ (hx : p.tables.exec = Jvm.exec) (hb : c.code = cc) (h : wT G A n ad ev s H locs) (q : Nat) (hq : q < n) {N : Nat} {f : Nat → Int64} (hev : ev q = eJ G N f) (hdg : decode cc pc = .ok (.arraylength, 1))
    (kk : W p l e R s m args below meth c H locs cells slots Q (F0 m (pc + 1) ls (.int (nI N) :: rest))) : W p l e R s m args below meth c H locs cells slots Q (F0 m pc ls (.ref (ad q) :: rest)) :=
  va_alen (x := (N, .inr (.inl f))) hx hb h.1.1 h.1.2.1 q 2 (by rw [wv_at hq, hev]) rfl rfl hdg kk
/-! System.arraycopy between rows of one kind -/
theorem wv_copyb (hx : p.tables.exec = Jvm.exec) (hb : c.code = cc) (hml : c.maxLocals = ls.size) (h : wT G A n ad ev s H locs) {own : String} {index : Nat} (hown : s.vm.findClass own = some m.cls) (hlink : (Cond.methodLink own index arraycopyName).before args s = true) (hnat : (Cond.native arraycopyName).before args s = true) (hstat : (Cond.static arraycopyName).before args s = true) (hini : (Cond.initialized "java/lang/System").before args s = true)
    (q0 q1 : Nat) (hq0 : q0 < n) (hq1 : q1 < n) {n0 n1 : Nat} {f g : Nat → Int32} (h0 : ev q0 = eB G n0 f) (h1 : ev q1 = eB G n1 g) {sp dp k : Int32} {a b d : Nat} (ha : sp = nI a) (hd : dp = nI b) (hk : k = nI d) (h4 : a + d ≤ n0) (h5 : b + d ≤ n1) (hn0 : n0 < 2 ^ 31) (hn1 : n1 < 2 ^ 31) (hfit : ∀ i, i < d → fits .byte (.int (f (a + i))) = true)
    (hframes : 1 ≤ R.frames) (hlocals : (rest.map fun v => v.category).sum + (nativeFrameWords "java/lang/System" "arraycopy" 5 + 11) ≤ R.locals) (hdg : decode cc pc = .ok (.invokestatic index, 3))
    (kk : ∀ (H1 : Heap) (locs1 : List Loc), wT G A n ad (va_up ev q1 (eB G n1 (va_cpy f g a b d))) s H1 locs1 → W p l e R s m args below meth c H1 locs1 cells slots Q (F0 m (pc + 3) ls rest)) : W p l e R s m args below meth c H locs cells slots Q (F0 m pc ls (.int k :: .int dp :: .ref (ad q1) :: .int sp :: .ref (ad q0) :: rest)) := by
  subst ha hd hk
  refine va_copyi (ty := .byte) hx hb hml hown hlink hnat hstat hini h.1.1 h.1.2.1 h.1.2.2 h.2.1 q0 q1 0 0 (by rw [wv_at hq0, h0]) (by rw [wv_at hq1, h1]) rfl rfl rfl (nI_pos (by omega)) (nI_pos (by omega)) (nI_pos (by omega)) (by rw [nI_clamp (by omega), nI_clamp (by omega)]; exact h4) (by rw [nI_clamp (by omega), nI_clamp (by omega)]; exact h5) (by rw [nI_clamp (by omega), nI_clamp (by omega)]; exact hfit) hframes hlocals hdg (fun H1 locs1 hP hD hS => ?_)
  rw [nI_clamp (by omega), nI_clamp (by omega), nI_clamp (by omega), wv_up hq1] at hP hD
  exact kk H1 locs1 ⟨⟨h.1.1, hP, hD⟩, hS, h.2.2⟩
theorem wv_copyi (hx : p.tables.exec = Jvm.exec) (hb : c.code = cc) (hml : c.maxLocals = ls.size) (h : wT G A n ad ev s H locs) {own : String} {index : Nat} (hown : s.vm.findClass own = some m.cls) (hlink : (Cond.methodLink own index arraycopyName).before args s = true) (hnat : (Cond.native arraycopyName).before args s = true) (hstat : (Cond.static arraycopyName).before args s = true) (hini : (Cond.initialized "java/lang/System").before args s = true)
    (q0 q1 : Nat) (hq0 : q0 < n) (hq1 : q1 < n) {n0 n1 : Nat} {f g : Nat → Int32} (h0 : ev q0 = eI G n0 f) (h1 : ev q1 = eI G n1 g) {sp dp k : Int32} {a b d : Nat} (ha : sp = nI a) (hd : dp = nI b) (hk : k = nI d) (h4 : a + d ≤ n0) (h5 : b + d ≤ n1) (hn0 : n0 < 2 ^ 31) (hn1 : n1 < 2 ^ 31)
    (hframes : 1 ≤ R.frames) (hlocals : (rest.map fun v => v.category).sum + (nativeFrameWords "java/lang/System" "arraycopy" 5 + 11) ≤ R.locals) (hdg : decode cc pc = .ok (.invokestatic index, 3))
    (kk : ∀ (H1 : Heap) (locs1 : List Loc), wT G A n ad (va_up ev q1 (eI G n1 (va_cpy f g a b d))) s H1 locs1 → W p l e R s m args below meth c H1 locs1 cells slots Q (F0 m (pc + 3) ls rest)) : W p l e R s m args below meth c H locs cells slots Q (F0 m pc ls (.int k :: .int dp :: .ref (ad q1) :: .int sp :: .ref (ad q0) :: rest)) := by
  subst ha hd hk
  refine va_copyi (ty := .int) hx hb hml hown hlink hnat hstat hini h.1.1 h.1.2.1 h.1.2.2 h.2.1 q0 q1 1 1 (by rw [wv_at hq0, h0]) (by rw [wv_at hq1, h1]) rfl rfl rfl (nI_pos (by omega)) (nI_pos (by omega)) (nI_pos (by omega)) (by rw [nI_clamp (by omega), nI_clamp (by omega)]; exact h4) (by rw [nI_clamp (by omega), nI_clamp (by omega)]; exact h5) (fun _ _ => rfl) hframes hlocals hdg (fun H1 locs1 hP hD hS => ?_)
  rw [nI_clamp (by omega), nI_clamp (by omega), nI_clamp (by omega), wv_up hq1] at hP hD
  exact kk H1 locs1 ⟨⟨h.1.1, hP, hD⟩, hS, h.2.2⟩
theorem wv_copyl (hx : p.tables.exec = Jvm.exec) (hb : c.code = cc) (hml : c.maxLocals = ls.size) (h : wT G A n ad ev s H locs) {own : String} {index : Nat} (hown : s.vm.findClass own = some m.cls) (hlink : (Cond.methodLink own index arraycopyName).before args s = true) (hnat : (Cond.native arraycopyName).before args s = true) (hstat : (Cond.static arraycopyName).before args s = true) (hini : (Cond.initialized "java/lang/System").before args s = true)
    (q0 q1 : Nat) (hq0 : q0 < n) (hq1 : q1 < n) {n0 n1 : Nat} {f g : Nat → Int64} (h0 : ev q0 = eJ G n0 f) (h1 : ev q1 = eJ G n1 g) {sp dp k : Int32} {a b d : Nat} (ha : sp = nI a) (hd : dp = nI b) (hk : k = nI d) (h4 : a + d ≤ n0) (h5 : b + d ≤ n1) (hn0 : n0 < 2 ^ 31) (hn1 : n1 < 2 ^ 31)
    (hframes : 1 ≤ R.frames) (hlocals : (rest.map fun v => v.category).sum + (nativeFrameWords "java/lang/System" "arraycopy" 5 + 11) ≤ R.locals) (hdg : decode cc pc = .ok (.invokestatic index, 3))
    (kk : ∀ (H1 : Heap) (locs1 : List Loc), wT G A n ad (va_up ev q1 (eJ G n1 (va_cpy f g a b d))) s H1 locs1 → W p l e R s m args below meth c H1 locs1 cells slots Q (F0 m (pc + 3) ls rest)) : W p l e R s m args below meth c H locs cells slots Q (F0 m pc ls (.int k :: .int dp :: .ref (ad q1) :: .int sp :: .ref (ad q0) :: rest)) := by
  subst ha hd hk
  refine va_copyl (ty := .long) hx hb hml hown hlink hnat hstat hini h.1.1 h.1.2.1 h.1.2.2 h.2.1 q0 q1 2 2 (by rw [wv_at hq0, h0]) (by rw [wv_at hq1, h1]) rfl rfl rfl (nI_pos (by omega)) (nI_pos (by omega)) (nI_pos (by omega)) (by rw [nI_clamp (by omega), nI_clamp (by omega)]; exact h4) (by rw [nI_clamp (by omega), nI_clamp (by omega)]; exact h5) (fun _ _ => rfl) hframes hlocals hdg (fun H1 locs1 hP hD hS => ?_)
  rw [nI_clamp (by omega), nI_clamp (by omega), nI_clamp (by omega), wv_up hq1] at hP hD
  exact kk H1 locs1 ⟨⟨h.1.1, hP, hD⟩, hS, h.2.2⟩
end WVC
section WVD
variable {p : Program} {l : Launch} {e : Env} {R : Room} {s : State} {m : MethodId} {args : Array Value} {below : List Frame} {meth : Method} {c : Code} {H : Heap} {locs : List Loc} {cells slots : Nat} {Q : State → Prop} {cc : ByteArray} {pc : Nat} {ls : Array Slot} {rest st0 As : List Value} {G : wG} {A : Nat → Prop} {n : Nat} {ad : Nat → Nat} {ev : Nat → va_E} {x : Cond} {y : MethodName} {bytes : ByteArray} {maxL nL index k : Nat} {ret : Option FieldType} {rm : Room} {own : String}
abbrev wRm (rm R : Room) (maxL : Nat) : Prop := rm.cells = 0 ∧ rm.slots = 0 ∧ rm.frames + 1 ≤ R.frames ∧ 8 + (maxL + 11) + rm.locals ≤ R.locals
/-- a call of an own class's method on the object at place q -/
theorem wv_V {post : Option Value → (Nat → va_E) → Prop} (hC : CallFix p m c cc nL s args (x :: tb) own) (h : wT G A n ad ev s H locs) (q : Nat) (hq : q < n) {ci : Nat} {fs : List Value} {C : String} {T : u_T} {N : Nat} (hev : ev q = eO ci fs) (hc : vwCl[ci]? = some (C, T, N))
    (hM : Met l y (.code y bytes maxL ret :: tb) rm (wPc G A n ad ev (.ref (ad q) :: As)) (wQc G A n ad post) 0 0 A) (hcode : Cond.code y bytes maxL ret ∈ tb) (hlink : Cond.methodLink own index y ∈ tb) (hin : Cond.instanceMethod y ∈ tb) (hsel : Cond.selects C y y ∈ tb) (hini : Cond.initialized C ∈ tb)
    (hd : y.cls = C ∧ y.cls ≠ "java/lang/invoke/MethodHandle" ∧ y.cls ≠ "java/lang/invoke/VarHandle" ∧ (parseMethodDescriptor y.desc).map (fun d => d.parameters.length) = some k) (hR : wRm rm R maxL) (hsz : ls.size = nL) (hn : As.length = k) (hst : st0 = As.reverse ++ .ref (ad q) :: rest) (hW : (rest.map fun v => v.category).sum ≤ 8) (hf : cells ≤ R.cells ∧ slots ≤ R.slots) (hdg : decode cc pc = .ok (.invokevirtual index, 3))
    (kk : ∀ (ov : Option Value) (ev' : Nat → va_E) (H1 : Heap) (locs1 : List Loc), post ov ev' → wT G A n ad ev' s H1 locs1 → W p l e R s m args below meth c H1 locs1 cells slots Q (F0 m (pc + 3) ls (ov.toList ++ rest))) : W p l e R s m args below meth c H locs cells slots Q (F0 m pc ls st0) := by
  refine wv_call h (va_runV (As := As) (rest := rest) hC hM (cwV k hC.2.2.2.2 (tb_good ?_) rfl hR.1 hR.2.1 hd ⟨hR.2.2.1, hR.2.2.2⟩) (h.preV q hq hev hc) rfl hn hsz hst (lv_room hW) hdg hf) kk
  intro w hw
  simp only [wsV, List.mem_append, List.mem_cons, List.not_mem_nil, or_false] at hw
  rcases hw with (rfl | rfl | rfl | rfl) | rfl | hw
  · exact hlink
  · exact hin
  · exact hsel
  · exact hini
  · exact hcode
  · exact hw
/-- a call of a static method of an own class -/
theorem wv_Sx {post : Option Value → (Nat → va_E) → Prop} (hC : CallFix p m c cc nL s args (x :: tb) own) (h : wT G A n ad ev s H locs)
    (hM : Met l y (.code y bytes maxL ret :: tb) rm (wPc G A n ad ev As) (wQc G A n ad post) 0 0 A) (hcode : Cond.code y bytes maxL ret ∈ tb) (hlink : Cond.methodLink own index y ∈ tb) (hstat : Cond.static y ∈ tb) (hini : Cond.initialized y.cls ∈ tb)
    (hd : y.cls ≠ "java/lang/invoke/MethodHandle" ∧ y.cls ≠ "java/lang/invoke/VarHandle" ∧ (parseMethodDescriptor y.desc).map (fun d => d.parameters.length) = some k) (hR : wRm rm R maxL) (hsz : ls.size = nL) (hn : As.length = k) (hst : st0 = As.reverse ++ rest) (hW : (rest.map fun v => v.category).sum ≤ 8) (hf : cells ≤ R.cells ∧ slots ≤ R.slots) (hdg : decode cc pc = .ok (.invokestatic index, 3))
    (kk : ∀ (ov : Option Value) (ev' : Nat → va_E) (H1 : Heap) (locs1 : List Loc), post ov ev' → wT G A n ad ev' s H1 locs1 → W p l e R s m args below meth c H1 locs1 cells slots Q (F0 m (pc + 3) ls (ov.toList ++ rest))) : W p l e R s m args below meth c H locs cells slots Q (F0 m pc ls st0) := by
  have hts := hC.2.2.2.2
  have hg : GoodIn (x :: tb) (.code y bytes maxL ret :: tb) := tb_good (fun w hw => by
    rcases List.mem_cons.mp hw with rfl | hw
    · exact hcode
    · exact hw)
  exact wv_call h (va_runS (As := As) (rest := rest) hC hM ⟨callB_of k hts hg rfl hR.1 hR.2.1 (hts _ (List.mem_cons_of_mem _ hini)) (hts _ (List.mem_cons_of_mem _ hlink)) hd ⟨hR.2.2.1, hR.2.2.2⟩, hts _ (List.mem_cons_of_mem _ hstat)⟩ h.preS rfl hn hsz hst (lv_room hW) hdg hf) kk
end WVD
section WVE
variable {p : Program} {l : Launch} {e : Env} {R : Room} {s : State} {m : MethodId} {args : Array Value} {below : List Frame} {meth : Method} {c : Code} {H : Heap} {locs : List Loc} {cells slots : Nat} {Q : State → Prop} {pc : Nat} {ls : Array Slot} {rest : List Value}
theorem wv_top {v w : Int32} (hvw : v = w) (k : W p l e R s m args below meth c H locs cells slots Q (F0 m pc ls (.int w :: rest))) : W p l e R s m args below meth c H locs cells slots Q (F0 m pc ls (.int v :: rest)) := hvw ▸ k
theorem wv_topl {v w : Int64} (hvw : v = w) (k : W p l e R s m args below meth c H locs cells slots Q (F0 m pc ls (.long w :: rest))) : W p l e R s m args below meth c H locs cells slots Q (F0 m pc ls (.long v :: rest)) := hvw ▸ k
end WVE
theorem wv_dec {a : Nat} (h : 1 ≤ a) : nI a + Int32.ofInt (-1) = nI (a - 1) := by
  rw [show Int32.ofInt (-1) = -1 by decide]
  obtain ⟨b, rfl⟩ : ∃ b, a = b + 1 := ⟨a - 1, by omega⟩
  rw [Nat.add_sub_cancel]
  exact pk_m1 b
theorem va_up2 {α : Type} (f : Nat → α) (k : Nat) (v w : α) : va_up (va_up f k v) k w = va_up f k w := by
  funext j
  unfold va_up
  by_cases h : j = k <;> simp [h]
theorem va_upc {α : Type} (f : Nat → α) {j k : Nat} (v w : α) (hjk : j ≠ k) : va_up (va_up f j v) k w = va_up (va_up f k w) j v := by
  funext i
  unfold va_up
  by_cases h : i = k
  · subst h
    simp [Ne.symm hjk]
  · simp [h]
theorem va_upi {α : Type} (f : Nat → α) (k : Nat) {v : α} (h : f k = v) : va_up f k v = f := by
  funext j
  unfold va_up
  by_cases hj : j = k
  · subst hj
    simp [h]
  · simp [hj]
section WVF
variable {s : State} {H : Heap} {locs : List Loc} {G : wG} {A : Nat → Prop} {n : Nat} {ad : Nat → Nat} {ev : Nat → va_E}
theorem arrV_congr (cI : ClassId) {N : Nat} {f g : Nat → Value} (h : ∀ j, j < N → f j = g j) : arrV cI N f = arrV cI N g := by
  unfold arrV
  congr 1
  apply Array.ext
  · simp
  · intro i h1 h2
    simp only [Array.getElem_ofFn]
    exact h i (by simpa using h1)
/-- a row may be told by any numbers that are the same at its places -/
theorem wT_eq (h : wT G A n ad ev s H locs) (q : Nat) (hq : q < n) {cA : ClassId} {x y : vp_A} (hev : ev q = .inl (cA, x)) (hxy : vp_cell cA x = vp_cell cA y) : wT G A n ad (va_up ev q (.inl (cA, y))) s H locs := by
  obtain ⟨⟨hK, hP, hD⟩, hS, hA⟩ := h
  have hg : ∀ k, k < n → (wv n ad ev)[k]? = some (ad k, ev k) := fun k hk => wv_at hk
  refine ⟨⟨hK, ?_, ?_⟩, hS, hA⟩
  · rw [← wv_up hq]
    refine hP.set hD (by rw [wv_at hq]) ?_ (fun _ _ => rfl)
    have h1 := hP q _ (wv_at hq)
    rw [hev] at h1
    show H[ad q]? = some (vp_cell cA y)
    rw [← hxy]
    exact h1
  · rw [← wv_up hq]
    exact hD.set (by rw [wv_at hq])
theorem wT_eqB (h : wT G A n ad ev s H locs) (q : Nat) (hq : q < n) {N : Nat} {f g : Nat → Int32} (hev : ev q = eB G N f) (hfg : ∀ j, j < N → f j = g j) : wT G A n ad (va_up ev q (eB G N g)) s H locs :=
  wT_eq h q hq hev (by rw [vp_cell_i, vp_cell_i]; exact arrV_congr _ (fun j hj => by rw [hfg j hj]))
theorem wT_eqI (h : wT G A n ad ev s H locs) (q : Nat) (hq : q < n) {N : Nat} {f g : Nat → Int32} (hev : ev q = eI G N f) (hfg : ∀ j, j < N → f j = g j) : wT G A n ad (va_up ev q (eI G N g)) s H locs :=
  wT_eq h q hq hev (by rw [vp_cell_i, vp_cell_i]; exact arrV_congr _ (fun j hj => by rw [hfg j hj]))
theorem wT_eqJ (h : wT G A n ad ev s H locs) (q : Nat) (hq : q < n) {N : Nat} {f g : Nat → Int64} (hev : ev q = eJ G N f) (hfg : ∀ j, j < N → f j = g j) : wT G A n ad (va_up ev q (eJ G N g)) s H locs :=
  wT_eq h q hq hev (by rw [vp_cell_l, vp_cell_l]; exact arrV_congr _ (fun j hj => by rw [hfg j hj]))
end WVF
end
section
/-! pure words: rows of bytes by their numbers, words of four bytes, fillings -/
def fil {α : Type} (o k : Nat) (g f : Nat → α) : Nat → α := fun j => if o ≤ j ∧ j < o + k then g (j - o) else f j
theorem fil_0 {α : Type} (o : Nat) (g f : Nat → α) : fil o 0 g f = f := by
  funext j
  unfold fil
  rw [if_neg (by omega)]
theorem fil_s {α : Type} (o k : Nat) (g f : Nat → α) {v : α} (hv : v = g k) : va_up (fil o k g f) (o + k) v = fil o (k + 1) g f := by
  subst hv
  funext j
  unfold fil va_up
  by_cases h : j = o + k
  · subst h
    rw [if_pos rfl, if_pos (by omega)]
    congr 1
    omega
  · rw [if_neg h]
    dsimp only
    by_cases h2 : o ≤ j ∧ j < o + k
    · rw [if_pos h2, if_pos (by omega)]
    · rw [if_neg h2, if_neg (by omega)]
theorem fil_in {α : Type} {o k : Nat} {g f : Nat → α} {j : Nat} (h : j < k) : fil o k g f (o + j) = g j := by
  unfold fil
  rw [if_pos (by omega)]
  congr 1
  omega
theorem fil_out {α : Type} {o k : Nat} {g f : Nat → α} {j : Nat} (h : j < o ∨ o + k ≤ j) : fil o k g f j = f j := by
  unfold fil
  rw [if_neg (by omega)]
def bs (B : Nat → Nat) : Nat → Int32 := fun j => sb_b (B j)
def ns (B : Nat → Nat) : Nat → Int32 := fun j => nI (B j)
theorem bs_up (B : Nat → Nat) (k v : Nat) {x : Int32} (hx : x = sb_b v) : va_up (bs B) k x = bs (va_up B k v) := by
  subst hx
  funext j
  unfold bs va_up
  by_cases h : j = k <;> simp [h]
theorem ns_up (B : Nat → Nat) (k v : Nat) {x : Int32} (hx : x = nI v) : va_up (ns B) k x = ns (va_up B k v) := by
  subst hx
  funext j
  unfold ns va_up
  by_cases h : j = k <;> simp [h]
theorem bs_fit (B : Nat → Nat) (i : Nat) : fits .byte (.int (bs B i)) = true := sb_fitB _
theorem bs_and {B : Nat → Nat} {i : Nat} (h : B i < 256) : bs B i &&& 255 = nI (B i) := (sb_byte _ h).1
def wordN (B : Nat → Nat) (i : Nat) : Int32 := nI (B i) ||| nI (B (i + 1)) <<< ((8 : Int32) &&& 31) ||| nI (B (i + 2)) <<< ((16 : Int32) &&& 31) ||| nI (B (i + 3)) <<< ((24 : Int32) &&& 31)
def byN (w : Int32) (b : Nat) : Nat := w.toBitVec.toNat / 2 ^ (8 * b) % 256
theorem byN_lt (w : Int32) (b : Nat) : byN w b < 256 := Nat.mod_lt _ (by decide)
theorem pk_tn' {n : Nat} : (Int32.ofNat n).toBitVec.toNat = n % 2 ^ 32 := by
  show (BitVec.ofNat 32 n).toNat = _
  rw [BitVec.toNat_ofNat]
theorem i8_sb (y : Int32) : y.toInt8.toInt32 = sb_b (y.toBitVec.toNat % 256) := by
  unfold sb_b nI
  apply Int32.toBitVec_inj.mp
  rw [Int8.toBitVec_toInt32, Int8.toBitVec_toInt32]
  congr 1
  rw [Int32.toBitVec_toInt8, Int32.toBitVec_toInt8]
  apply BitVec.eq_of_toNat_eq
  rw [BitVec.signExtend_eq_setWidth_of_le _ (by decide), BitVec.signExtend_eq_setWidth_of_le _ (by decide), BitVec.toNat_setWidth, BitVec.toNat_setWidth, pk_tn']
  omega
theorem nar_i8 (y : Int32) : vp_nar .byte y.toInt8.toInt32 = sb_b (y.toBitVec.toNat % 256) := by rw [pk_vb, i8_sb]
theorem ush8 (w : Int32) (b : Nat) (hb : b < 4) : (w.toUInt32 >>> ((nI (8 * b)).toUInt32 &&& Int32.toUInt32 31)).toInt32.toBitVec.toNat = w.toBitVec.toNat / 2 ^ (8 * b) := by
  refine pk_ushr w _ (8 * b) ?_
  rcases (show b = 0 ∨ b = 1 ∨ b = 2 ∨ b = 3 by omega) with rfl | rfl | rfl | rfl <;> decide
theorem wr_byte (w : Int32) (b : Nat) (hb : b < 4) : vp_nar .byte (w.toUInt32 >>> ((nI (8 * b)).toUInt32 &&& Int32.toUInt32 31)).toInt32.toInt8.toInt32 = sb_b (byN w b) := by
  rw [nar_i8, ush8 w b hb]
  rfl
/-- a word turned up by k bits, as both sides write it -/
def rot (w k : Int32) : Int32 := w <<< (k &&& 31) ||| (w.toUInt32 >>> ((nI 32 - k).toUInt32 &&& Int32.toUInt32 31)).toInt32
/-- QUARTER on words -/
def qtr (a b c d : Nat) (f : Nat → Int32) : Nat → Int32 :=
  let f1 := va_up f b (f b ^^^ rot (f a + f d) (nI 7))
  let f2 := va_up f1 c (f1 c ^^^ rot (f1 b + f1 a) (nI 9))
  let f3 := va_up f2 d (f2 d ^^^ rot (f2 c + f2 b) (nI 13))
  va_up f3 a (f3 a ^^^ rot (f3 d + f3 c) (nI 18))
def rnd (f : Nat → Int32) : Nat → Int32 :=
  qtr 15 12 13 14 (qtr 10 11 8 9 (qtr 5 6 7 4 (qtr 0 1 2 3 (qtr 15 3 7 11 (qtr 10 14 2 6 (qtr 5 9 13 1 (qtr 0 4 8 12 f)))))))
def rnds : Nat → (Nat → Int32) → (Nat → Int32)
  | 0, f => f
  | k + 1, f => rnd (rnds k f)
end
section
theorem d_Mx_rotated_0 : decode c_Mx_rotated 0 = .ok (.iload_n 0, 1) := by decide +kernel
theorem d_Mx_rotated_1 : decode c_Mx_rotated 1 = .ok (.iload_n 1, 1) := by decide +kernel
theorem d_Mx_rotated_2 : decode c_Mx_rotated 2 = .ok (.ishl, 1) := by decide +kernel
theorem d_Mx_rotated_3 : decode c_Mx_rotated 3 = .ok (.iload_n 0, 1) := by decide +kernel
theorem d_Mx_rotated_4 : decode c_Mx_rotated 4 = .ok (.bipush 32, 2) := by decide +kernel
theorem d_Mx_rotated_6 : decode c_Mx_rotated 6 = .ok (.iload_n 1, 1) := by decide +kernel
theorem d_Mx_rotated_7 : decode c_Mx_rotated 7 = .ok (.isub, 1) := by decide +kernel
theorem d_Mx_rotated_8 : decode c_Mx_rotated 8 = .ok (.iushr, 1) := by decide +kernel
theorem d_Mx_rotated_9 : decode c_Mx_rotated 9 = .ok (.ior, 1) := by decide +kernel
theorem d_Mx_rotated_10 : decode c_Mx_rotated 10 = .ok (.ireturn, 1) := by decide +kernel
set_option maxRecDepth 100000 in
set_option maxHeartbeats 4000000 in
/-- x turned up by k bits -/
theorem m_Mx_rotated (l : Launch) (G : wG) (A : Nat → Prop) (ad : Nat → Nat) (ev : Nat → va_E) (x k : Int32) : wM l y_Mx_rotated w_Mx_rotated ({ frames := 0, cells := 0, slots := 0, locals := 0 }) G A 52 ad ev [.int (x), .int (k)] (fun ov ev' => ov = some (.int (rot x k)) ∧ ev' = ev) := by
  refine wv_ofW (cc := c_Mx_rotated) (maxL := 2) (ret := (Option.some FieldType.int)) (by decide) rfl (Nat.le_of_ble_eq_true rfl) ?_
  intro p e s m below meth c ls hx hb hr hml hts hown hlocks hini h hl
  have hl : lv_has ls 2 [(0, .int (x)), (1, .int (k))] := hl
  refine lv_iload_n hx hb d_Mx_rotated_0 rfl (lv_at hl 0 rfl) ?_
  refine lv_iload_n hx hb d_Mx_rotated_1 rfl (lv_at hl 1 rfl) ?_
  refine lv_ishl hx hb d_Mx_rotated_2 ?_
  refine lv_iload_n hx hb d_Mx_rotated_3 rfl (lv_at hl 0 rfl) ?_
  refine lv_bipush (v := nI (32)) hx hb d_Mx_rotated_4 (by decide) ?_
  refine lv_iload_n hx hb d_Mx_rotated_6 rfl (lv_at hl 1 rfl) ?_
  refine lv_isub hx hb d_Mx_rotated_7 ?_
  refine lv_iushr hx hb d_Mx_rotated_8 rfl ?_
  refine lv_ior hx hb d_Mx_rotated_9 ?_
  exact wv_iret hx hb hr hlocks h d_Mx_rotated_10 ⟨rfl, rfl⟩
theorem d_Md_rotated_0 : decode c_Md_rotated 0 = .ok (.iload_n 0, 1) := by decide +kernel
theorem d_Md_rotated_1 : decode c_Md_rotated 1 = .ok (.iload_n 1, 1) := by decide +kernel
theorem d_Md_rotated_2 : decode c_Md_rotated 2 = .ok (.ishl, 1) := by decide +kernel
theorem d_Md_rotated_3 : decode c_Md_rotated 3 = .ok (.iload_n 0, 1) := by decide +kernel
theorem d_Md_rotated_4 : decode c_Md_rotated 4 = .ok (.bipush 32, 2) := by decide +kernel
theorem d_Md_rotated_6 : decode c_Md_rotated 6 = .ok (.iload_n 1, 1) := by decide +kernel
theorem d_Md_rotated_7 : decode c_Md_rotated 7 = .ok (.isub, 1) := by decide +kernel
theorem d_Md_rotated_8 : decode c_Md_rotated 8 = .ok (.iushr, 1) := by decide +kernel
theorem d_Md_rotated_9 : decode c_Md_rotated 9 = .ok (.ior, 1) := by decide +kernel
theorem d_Md_rotated_10 : decode c_Md_rotated 10 = .ok (.ireturn, 1) := by decide +kernel
set_option maxRecDepth 100000 in
set_option maxHeartbeats 4000000 in
/-- x turned up by k bits -/
theorem m_Md_rotated (l : Launch) (G : wG) (A : Nat → Prop) (ad : Nat → Nat) (ev : Nat → va_E) (x k : Int32) : wM l y_Md_rotated w_Md_rotated ({ frames := 0, cells := 0, slots := 0, locals := 0 }) G A 52 ad ev [.int (x), .int (k)] (fun ov ev' => ov = some (.int (rot x k)) ∧ ev' = ev) := by
  refine wv_ofW (cc := c_Md_rotated) (maxL := 2) (ret := (Option.some FieldType.int)) (by decide) rfl (Nat.le_of_ble_eq_true rfl) ?_
  intro p e s m below meth c ls hx hb hr hml hts hown hlocks hini h hl
  have hl : lv_has ls 2 [(0, .int (x)), (1, .int (k))] := hl
  refine lv_iload_n hx hb d_Md_rotated_0 rfl (lv_at hl 0 rfl) ?_
  refine lv_iload_n hx hb d_Md_rotated_1 rfl (lv_at hl 1 rfl) ?_
  refine lv_ishl hx hb d_Md_rotated_2 ?_
  refine lv_iload_n hx hb d_Md_rotated_3 rfl (lv_at hl 0 rfl) ?_
  refine lv_bipush (v := nI (32)) hx hb d_Md_rotated_4 (by decide) ?_
  refine lv_iload_n hx hb d_Md_rotated_6 rfl (lv_at hl 1 rfl) ?_
  refine lv_isub hx hb d_Md_rotated_7 ?_
  refine lv_iushr hx hb d_Md_rotated_8 rfl ?_
  refine lv_ior hx hb d_Md_rotated_9 ?_
  exact wv_iret hx hb hr hlocks h d_Md_rotated_10 ⟨rfl, rfl⟩
theorem d_Mx_readWord_0 : decode c_Mx_readWord 0 = .ok (.aload_n 0, 1) := by decide +kernel
theorem d_Mx_readWord_1 : decode c_Mx_readWord 1 = .ok (.iload_n 1, 1) := by decide +kernel
theorem d_Mx_readWord_2 : decode c_Mx_readWord 2 = .ok (.baload, 1) := by decide +kernel
theorem d_Mx_readWord_3 : decode c_Mx_readWord 3 = .ok (.sipush 255, 3) := by decide +kernel
theorem d_Mx_readWord_6 : decode c_Mx_readWord 6 = .ok (.iand, 1) := by decide +kernel
theorem d_Mx_readWord_7 : decode c_Mx_readWord 7 = .ok (.aload_n 0, 1) := by decide +kernel
theorem d_Mx_readWord_8 : decode c_Mx_readWord 8 = .ok (.iload_n 1, 1) := by decide +kernel
theorem d_Mx_readWord_9 : decode c_Mx_readWord 9 = .ok (.iconst 1, 1) := by decide +kernel
theorem d_Mx_readWord_10 : decode c_Mx_readWord 10 = .ok (.iadd, 1) := by decide +kernel
theorem d_Mx_readWord_11 : decode c_Mx_readWord 11 = .ok (.baload, 1) := by decide +kernel
theorem d_Mx_readWord_12 : decode c_Mx_readWord 12 = .ok (.sipush 255, 3) := by decide +kernel
theorem d_Mx_readWord_15 : decode c_Mx_readWord 15 = .ok (.iand, 1) := by decide +kernel
theorem d_Mx_readWord_16 : decode c_Mx_readWord 16 = .ok (.bipush 8, 2) := by decide +kernel
theorem d_Mx_readWord_18 : decode c_Mx_readWord 18 = .ok (.ishl, 1) := by decide +kernel
theorem d_Mx_readWord_19 : decode c_Mx_readWord 19 = .ok (.ior, 1) := by decide +kernel
theorem d_Mx_readWord_20 : decode c_Mx_readWord 20 = .ok (.aload_n 0, 1) := by decide +kernel
theorem d_Mx_readWord_21 : decode c_Mx_readWord 21 = .ok (.iload_n 1, 1) := by decide +kernel
theorem d_Mx_readWord_22 : decode c_Mx_readWord 22 = .ok (.iconst 2, 1) := by decide +kernel
theorem d_Mx_readWord_23 : decode c_Mx_readWord 23 = .ok (.iadd, 1) := by decide +kernel
theorem d_Mx_readWord_24 : decode c_Mx_readWord 24 = .ok (.baload, 1) := by decide +kernel
theorem d_Mx_readWord_25 : decode c_Mx_readWord 25 = .ok (.sipush 255, 3) := by decide +kernel
theorem d_Mx_readWord_28 : decode c_Mx_readWord 28 = .ok (.iand, 1) := by decide +kernel
theorem d_Mx_readWord_29 : decode c_Mx_readWord 29 = .ok (.bipush 16, 2) := by decide +kernel
theorem d_Mx_readWord_31 : decode c_Mx_readWord 31 = .ok (.ishl, 1) := by decide +kernel
theorem d_Mx_readWord_32 : decode c_Mx_readWord 32 = .ok (.ior, 1) := by decide +kernel
theorem d_Mx_readWord_33 : decode c_Mx_readWord 33 = .ok (.aload_n 0, 1) := by decide +kernel
theorem d_Mx_readWord_34 : decode c_Mx_readWord 34 = .ok (.iload_n 1, 1) := by decide +kernel
theorem d_Mx_readWord_35 : decode c_Mx_readWord 35 = .ok (.iconst 3, 1) := by decide +kernel
theorem d_Mx_readWord_36 : decode c_Mx_readWord 36 = .ok (.iadd, 1) := by decide +kernel
theorem d_Mx_readWord_37 : decode c_Mx_readWord 37 = .ok (.baload, 1) := by decide +kernel
theorem d_Mx_readWord_38 : decode c_Mx_readWord 38 = .ok (.sipush 255, 3) := by decide +kernel
theorem d_Mx_readWord_41 : decode c_Mx_readWord 41 = .ok (.iand, 1) := by decide +kernel
theorem d_Mx_readWord_42 : decode c_Mx_readWord 42 = .ok (.bipush 24, 2) := by decide +kernel
theorem d_Mx_readWord_44 : decode c_Mx_readWord 44 = .ok (.ishl, 1) := by decide +kernel
theorem d_Mx_readWord_45 : decode c_Mx_readWord 45 = .ok (.ior, 1) := by decide +kernel
theorem d_Mx_readWord_46 : decode c_Mx_readWord 46 = .ok (.ireturn, 1) := by decide +kernel
set_option maxRecDepth 100000 in
set_option maxHeartbeats 4000000 in
/-- four bytes as a word -/
theorem m_Mx_readWord (l : Launch) (G : wG) (A : Nat → Prop) (ad : Nat → Nat) (ev : Nat → va_E) (q N o : Nat) (B : Nat → Nat) (hq : q < 52) (hev : ev q = eB G N (bs B)) (hB : ∀ j, B j < 256) (ho : o + 4 ≤ N) (hN : N < 2 ^ 31) : wM l y_Mx_readWord w_Mx_readWord ({ frames := 0, cells := 0, slots := 0, locals := 0 }) G A 52 ad ev [.ref (ad q), .int (nI (o))] (fun ov ev' => ov = some (.int (wordN B o)) ∧ ev' = ev) := by
  refine wv_ofW (cc := c_Mx_readWord) (maxL := 2) (ret := (Option.some FieldType.int)) (by decide) rfl (Nat.le_of_ble_eq_true rfl) ?_
  intro p e s m below meth c ls hx hb hr hml hts hown hlocks hini h hl
  have hl : lv_has ls 2 [(0, .ref (ad q)), (1, .int (nI (o)))] := hl
  refine lv_aload_n hx hb d_Mx_readWord_0 rfl (lv_at hl 0 rfl) ?_
  refine lv_iload_n hx hb d_Mx_readWord_1 rfl (lv_at hl 1 rfl) ?_
  refine wv_bald hx hb h q hq (f := (bs B)) hev (k := o) rfl (by omega) hN d_Mx_readWord_2 ?_
  refine lv_sipush (v := 255) hx hb d_Mx_readWord_3 (by decide) ?_
  refine lv_iand hx hb d_Mx_readWord_6 ?_
  refine wv_top (bs_and (hB _)) ?_
  refine lv_aload_n hx hb d_Mx_readWord_7 rfl (lv_at hl 0 rfl) ?_
  refine lv_iload_n hx hb d_Mx_readWord_8 rfl (lv_at hl 1 rfl) ?_
  refine lv_iconst (v := nI (1)) hx hb d_Mx_readWord_9 (by decide) ?_
  refine lv_iadd hx hb d_Mx_readWord_10 ?_
  refine wv_top (nI_add _ _) ?_
  refine wv_bald hx hb h q hq (f := (bs B)) hev (k := o + 1) rfl (by omega) hN d_Mx_readWord_11 ?_
  refine lv_sipush (v := 255) hx hb d_Mx_readWord_12 (by decide) ?_
  refine lv_iand hx hb d_Mx_readWord_15 ?_
  refine wv_top (bs_and (hB _)) ?_
  refine lv_bipush (v := 8) hx hb d_Mx_readWord_16 (by decide) ?_
  refine lv_ishl hx hb d_Mx_readWord_18 ?_
  refine lv_ior hx hb d_Mx_readWord_19 ?_
  refine lv_aload_n hx hb d_Mx_readWord_20 rfl (lv_at hl 0 rfl) ?_
  refine lv_iload_n hx hb d_Mx_readWord_21 rfl (lv_at hl 1 rfl) ?_
  refine lv_iconst (v := nI (2)) hx hb d_Mx_readWord_22 (by decide) ?_
  refine lv_iadd hx hb d_Mx_readWord_23 ?_
  refine wv_top (nI_add _ _) ?_
  refine wv_bald hx hb h q hq (f := (bs B)) hev (k := o + 2) rfl (by omega) hN d_Mx_readWord_24 ?_
  refine lv_sipush (v := 255) hx hb d_Mx_readWord_25 (by decide) ?_
  refine lv_iand hx hb d_Mx_readWord_28 ?_
  refine wv_top (bs_and (hB _)) ?_
  refine lv_bipush (v := 16) hx hb d_Mx_readWord_29 (by decide) ?_
  refine lv_ishl hx hb d_Mx_readWord_31 ?_
  refine lv_ior hx hb d_Mx_readWord_32 ?_
  refine lv_aload_n hx hb d_Mx_readWord_33 rfl (lv_at hl 0 rfl) ?_
  refine lv_iload_n hx hb d_Mx_readWord_34 rfl (lv_at hl 1 rfl) ?_
  refine lv_iconst (v := nI (3)) hx hb d_Mx_readWord_35 (by decide) ?_
  refine lv_iadd hx hb d_Mx_readWord_36 ?_
  refine wv_top (nI_add _ _) ?_
  refine wv_bald hx hb h q hq (f := (bs B)) hev (k := o + 3) rfl (by omega) hN d_Mx_readWord_37 ?_
  refine lv_sipush (v := 255) hx hb d_Mx_readWord_38 (by decide) ?_
  refine lv_iand hx hb d_Mx_readWord_41 ?_
  refine wv_top (bs_and (hB _)) ?_
  refine lv_bipush (v := 24) hx hb d_Mx_readWord_42 (by decide) ?_
  refine lv_ishl hx hb d_Mx_readWord_44 ?_
  refine lv_ior hx hb d_Mx_readWord_45 ?_
  exact wv_iret hx hb hr hlocks h d_Mx_readWord_46 ⟨rfl, rfl⟩
theorem d_Mx_writeWord_0 : decode c_Mx_writeWord 0 = .ok (.iconst 0, 1) := by decide +kernel
theorem d_Mx_writeWord_1 : decode c_Mx_writeWord 1 = .ok (.istore_n 3, 1) := by decide +kernel
theorem d_Mx_writeWord_2 : decode c_Mx_writeWord 2 = .ok (.iload_n 3, 1) := by decide +kernel
theorem d_Mx_writeWord_3 : decode c_Mx_writeWord 3 = .ok (.iconst 4, 1) := by decide +kernel
theorem d_Mx_writeWord_4 : decode c_Mx_writeWord 4 = .ok (.if_icmp .ge 21, 3) := by decide +kernel
theorem d_Mx_writeWord_7 : decode c_Mx_writeWord 7 = .ok (.aload_n 1, 1) := by decide +kernel
theorem d_Mx_writeWord_8 : decode c_Mx_writeWord 8 = .ok (.iload_n 2, 1) := by decide +kernel
theorem d_Mx_writeWord_9 : decode c_Mx_writeWord 9 = .ok (.iload_n 3, 1) := by decide +kernel
theorem d_Mx_writeWord_10 : decode c_Mx_writeWord 10 = .ok (.iadd, 1) := by decide +kernel
theorem d_Mx_writeWord_11 : decode c_Mx_writeWord 11 = .ok (.iload_n 0, 1) := by decide +kernel
theorem d_Mx_writeWord_12 : decode c_Mx_writeWord 12 = .ok (.bipush 8, 2) := by decide +kernel
theorem d_Mx_writeWord_14 : decode c_Mx_writeWord 14 = .ok (.iload_n 3, 1) := by decide +kernel
theorem d_Mx_writeWord_15 : decode c_Mx_writeWord 15 = .ok (.imul, 1) := by decide +kernel
theorem d_Mx_writeWord_16 : decode c_Mx_writeWord 16 = .ok (.iushr, 1) := by decide +kernel
theorem d_Mx_writeWord_17 : decode c_Mx_writeWord 17 = .ok (.i2b, 1) := by decide +kernel
theorem d_Mx_writeWord_18 : decode c_Mx_writeWord 18 = .ok (.bastore, 1) := by decide +kernel
theorem d_Mx_writeWord_19 : decode c_Mx_writeWord 19 = .ok (.iinc 3 1, 3) := by decide +kernel
theorem d_Mx_writeWord_22 : decode c_Mx_writeWord 22 = .ok (.goto (-20), 3) := by decide +kernel
theorem d_Mx_writeWord_25 : decode c_Mx_writeWord 25 = .ok (.return_, 1) := by decide +kernel
set_option maxRecDepth 100000 in
set_option maxHeartbeats 4000000 in
/-- a word as four bytes -/
theorem m_Mx_writeWord (l : Launch) (G : wG) (A : Nat → Prop) (ad : Nat → Nat) (ev : Nat → va_E) (x : Int32) (q N o : Nat) (B : Nat → Nat) (hq : q < 52) (hev : ev q = eB G N (bs B)) (ho : o + 4 ≤ N) (hN : N < 2 ^ 31) : wM l y_Mx_writeWord w_Mx_writeWord ({ frames := 0, cells := 0, slots := 0, locals := 0 }) G A 52 ad ev [.int (x), .ref (ad q), .int (nI (o))] (fun ov ev' => ov = none ∧ ev' = va_up ev q (eB G N (bs (fil o 4 (byN x) B)))) := by
  refine wv_ofW (cc := c_Mx_writeWord) (maxL := 4) (ret := none) (by decide) rfl (Nat.le_of_ble_eq_true rfl) ?_
  intro p e s m below meth c ls hx hb hr hml hts hown hlocks hini h hl
  have hl : lv_has ls 4 [(0, .int (x)), (1, .ref (ad q)), (2, .int (nI (o)))] := hl
  refine lv_iconst (v := nI (0)) hx hb d_Mx_writeWord_0 (by decide) ?_
  refine lv_istore_n (lv' := [(3, .int (nI (0))), (0, .int (x)), (1, .ref (ad q)), (2, .int (nI (o)))]) hx hb d_Mx_writeWord_1 rfl hl (by decide) rfl (fun ls hl => ?_)
  have loop : ∀ (d k : Nat), k + d = 4 → ∀ (ev1 : Nat → va_E) (H : Heap) (locs : List Loc) (ls : Array Slot), ev1 = va_up ev q (eB G N (bs (fil o k (byN x) B))) → wT G A 52 ad ev1 s H locs → lv_has ls 4 [(3, .int (nI k)), (0, .int x), (1, .ref (ad q)), (2, .int (nI o))] → W p l e ({ frames := 0, cells := 0, slots := 0, locals := 0 }) s m ([.int (x), .ref (ad q), .int (nI (o))] : List Value).toArray below meth c H locs 0 0 (MQ below (wQc G A 52 ad (fun ov ev' => ov = none ∧ ev' = va_up ev q (eB G N (bs (fil o 4 (byN x) B))))) ([.int (x), .ref (ad q), .int (nI (o))] : List Value).toArray s 0 0 A) (F0 m 2 ls []) := by
    intro d
    induction d with
    | zero =>
      intro k hk ev1 H locs ls o1 h hl
      obtain rfl : k = 4 := by omega
      refine lv_iload_n hx hb d_Mx_writeWord_2 rfl (lv_at hl 0 rfl) ?_
      refine lv_iconst (v := nI (4)) hx hb d_Mx_writeWord_3 (by decide) ?_
      refine lv_icmp_ge (tgt := 25) hx hb d_Mx_writeWord_4 (by decide) (fun _ => ?_) (fun hc => absurd (by decide) hc)
      exact wv_vret hx hb hr hlocks h d_Mx_writeWord_25 ⟨rfl, o1⟩
    | succ d ih =>
      intro k hk ev1 H locs ls o1 h hl
      refine lv_iload_n hx hb d_Mx_writeWord_2 rfl (lv_at hl 0 rfl) ?_
      refine lv_iconst (v := nI (4)) hx hb d_Mx_writeWord_3 (by decide) ?_
      refine lv_icmp_ge (tgt := 25) hx hb d_Mx_writeWord_4 (by decide) (fun hc => absurd ((nI_leI (by omega) (by omega)).mp hc) (by omega)) (fun _ => ?_)
      have t1 : ev1 q = eB G N (bs (fil o k (byN x) B)) := by rw [o1, va_up_self]
      refine lv_aload_n hx hb d_Mx_writeWord_7 rfl (lv_at hl 2 rfl) ?_
      refine lv_iload_n hx hb d_Mx_writeWord_8 rfl (lv_at hl 3 rfl) ?_
      refine lv_iload_n hx hb d_Mx_writeWord_9 rfl (lv_at hl 0 rfl) ?_
      refine lv_iadd hx hb d_Mx_writeWord_10 ?_
      refine wv_top (nI_add _ _) ?_
      refine lv_iload_n hx hb d_Mx_writeWord_11 rfl (lv_at hl 1 rfl) ?_
      refine lv_bipush (v := nI (8)) hx hb d_Mx_writeWord_12 (by decide) ?_
      refine lv_iload_n hx hb d_Mx_writeWord_14 rfl (lv_at hl 0 rfl) ?_
      refine lv_imul hx hb d_Mx_writeWord_15 ?_
      refine wv_top (pk_mul _ _) ?_
      refine lv_iushr hx hb d_Mx_writeWord_16 rfl ?_
      refine lv_i2b hx hb d_Mx_writeWord_17 rfl ?_
      refine wv_bast hx hb h q hq (f := (bs (fil o k (byN x) B))) t1 (k := o + k) rfl (by omega) hN d_Mx_writeWord_18 (fun H locs h => ?_)
      obtain ⟨ev2, o2⟩ : ∃ z, z = va_up ev1 q (eB G N (va_up ((bs (fil o k (byN x) B))) (o + k) (vp_nar .byte (((x.toUInt32 >>> ((nI (8 * k)).toUInt32 &&& Int32.toUInt32 31)).toInt32).toInt8.toInt32)))) := ⟨_, rfl⟩
      rw [← o2] at h
      have t2_s : ev2 q = eB G N (va_up ((bs (fil o k (byN x) B))) (o + k) (vp_nar .byte (((x.toUInt32 >>> ((nI (8 * k)).toUInt32 &&& Int32.toUInt32 31)).toInt32).toInt8.toInt32))) := by rw [o2, va_up_self]
      refine lv_iinc (v := nI (k + 1)) (lv' := [(3, .int (nI (k + 1))), (0, .int (x)), (1, .ref (ad q)), (2, .int (nI (o)))]) hx hb d_Mx_writeWord_19 hl (k := 0) rfl (nI_add _ _) (by decide) rfl (fun ls hl => ?_)
      refine lv_goto (tgt := 2) hx hb d_Mx_writeWord_22 (by decide) ?_
      refine ih (k + 1) (by omega) ev2 H locs ls ?_ h (lv_sub hl [0, 1, 2, 3] rfl)
      rw [o2, o1, va_up2, bs_up _ _ (byN x k) (wr_byte x k (by omega)), fil_s _ _ _ _ rfl]
  exact loop 4 0 rfl ev s.heap [] ls (by rw [fil_0, va_upi _ _ hev]) h (lv_sub hl [0, 1, 2, 3] rfl)
end
section
/-! pure: LAID OUT, MIX, CORE, THE STREAM, by bytes -/
theorem fil_app {α : Type} {o k1 k2 : Nat} {g h f : Nat → α} (hg : ∀ b, b < k2 → g (k1 + b) = h b) : fil (o + k1) k2 h (fil o k1 g f) = fil o (k1 + k2) g f := by
  funext j
  unfold fil
  by_cases h1 : o + k1 ≤ j ∧ j < o + k1 + k2
  · rw [if_pos h1, if_pos (by omega), ← hg _ (by omega)]
    congr 1
    omega
  · rw [if_neg h1]
    by_cases h2 : o ≤ j ∧ j < o + k1
    · rw [if_pos h2, if_pos (by omega)]
    · rw [if_neg h2, if_neg (by omega)]
theorem fil_comm {α : Type} {o1 k1 o2 k2 : Nat} {g1 g2 f : Nat → α} (hd : o1 + k1 ≤ o2 ∨ o2 + k2 ≤ o1) : fil o1 k1 g1 (fil o2 k2 g2 f) = fil o2 k2 g2 (fil o1 k1 g1 f) := by
  funext j
  unfold fil
  by_cases h1 : o1 ≤ j ∧ j < o1 + k1
  · rw [if_pos h1, if_neg (by omega), if_pos h1]
  · rw [if_neg h1, if_neg h1]
theorem fil_lt {o k : Nat} {g f : Nat → Nat} (hg : ∀ j, g j < 256) (hf : ∀ j, f j < 256) (j : Nat) : fil o k g f j < 256 := by
  unfold fil
  by_cases h : o ≤ j ∧ j < o + k
  · rw [if_pos h]
    exact hg _
  · rw [if_neg h]
    exact hf _
def layL (K X : Nat → Nat) (f : Nat → Int32) : Nat → (Nat → Int32)
  | 0 => f
  | k + 1 => va_up (va_up (va_up (layL K X f k) (1 + k) (wordN K (4 * k))) (6 + k) (wordN X (4 * k))) (11 + k) (wordN K (16 + 4 * k))
def LAY (K X : Nat → Nat) : Nat → Int32 := fun j => if j = 0 then 1634760805 else if j = 5 then 857760878 else if j = 10 then 2036477234 else if j = 15 then 1797285236 else if j < 5 then wordN K (4 * (j - 1)) else if j < 10 then wordN X (4 * (j - 6)) else wordN K (16 + 4 * (j - 11))
theorem layL_4 (K X : Nat → Nat) (f : Nat → Int32) : ∀ j, j < 16 → layL K X (va_up (va_up (va_up (va_up f 0 1634760805) 5 857760878) 10 2036477234) 15 1797285236) 4 j = LAY K X j := by
  intro j hj
  match j, hj with
  | 0, _ => rfl
  | 1, _ => rfl
  | 2, _ => rfl
  | 3, _ => rfl
  | 4, _ => rfl
  | 5, _ => rfl
  | 6, _ => rfl
  | 7, _ => rfl
  | 8, _ => rfl
  | 9, _ => rfl
  | 10, _ => rfl
  | 11, _ => rfl
  | 12, _ => rfl
  | 13, _ => rfl
  | 14, _ => rfl
  | 15, _ => rfl
  | j + 16, h => exact absurd h (by omega)
/-- the words that MIX and CORE come out of -/
def RND (K X : Nat → Nat) : Nat → Int32 := rnds 10 (LAY K X)
def MIXB (K X : Nat → Nat) : Nat → Nat := fun j => if j < 16 then byN (RND K X (5 * (j / 4))) (j % 4) else byN (RND K X (6 + (j - 16) / 4)) (j % 4)
theorem MIXB_lt (K X : Nat → Nat) (j : Nat) : MIXB K X j < 256 := by
  unfold MIXB
  by_cases h : j < 16
  · rw [if_pos h]; exact byN_lt _ _
  · rw [if_neg h]; exact byN_lt _ _
def COREB (K X : Nat → Nat) : Nat → Nat := fun j => byN (RND K X (j / 4) + LAY K X (j / 4)) (j % 4)
theorem COREB_lt (K X : Nat → Nat) (j : Nat) : COREB K X j < 256 := byN_lt _ _
/-- what stands behind the key: the nonce's last 8 bytes and the block's number -/
def PLC (X : Nat → Nat) (i : Nat) : Nat → Nat := fun j => if j < 8 then X (16 + j) else if j = 8 then i else 0
def STRB (K X : Nat → Nat) : Nat → Nat := fun j => COREB (MIXB K X) (PLC X (j / 64)) (j % 64)
theorem STRB_lt (K X : Nat → Nat) (j : Nat) : STRB K X j < 256 := COREB_lt _ _ _
/-- the two halves of MIX's bytes, written word by word -/
def mixP (K X T : Nat → Nat) (i : Nat) : Nat → Nat := fil 16 (4 * i) (fun j => MIXB K X (16 + j)) (fil 0 (4 * i) (MIXB K X) T)
theorem mixP_0 (K X T : Nat → Nat) : mixP K X T 0 = T := by
  unfold mixP
  rw [fil_0, fil_0]
theorem mixP_s (K X T : Nat → Nat) {i : Nat} (hi : i < 4) : fil (16 + 4 * i) 4 (byN (RND K X (6 + i))) (fil (4 * i) 4 (byN (RND K X (5 * i))) (mixP K X T i)) = mixP K X T (i + 1) := by
  unfold mixP
  rw [fil_comm (o1 := 4 * i) (by omega)]
  have e1 : fil (4 * i) 4 (byN (RND K X (5 * i))) (fil 0 (4 * i) (MIXB K X) T) = fil 0 (4 * (i + 1)) (MIXB K X) T := by
    have := fil_app (o := 0) (k1 := 4 * i) (k2 := 4) (g := MIXB K X) (h := byN (RND K X (5 * i))) (f := T) (fun b hb => by
      unfold MIXB
      rw [if_pos (by omega), show (4 * i + b) / 4 = i by omega, show (4 * i + b) % 4 = b by omega])
    rw [Nat.zero_add] at this
    exact this
  rw [e1]
  exact fil_app (o := 16) (k1 := 4 * i) (k2 := 4) (fun b hb => by
    unfold MIXB
    rw [if_neg (by omega), show (16 + (4 * i + b) - 16) / 4 = i by omega, show (16 + (4 * i + b)) % 4 = b by omega])
theorem mixP_4 (K X T : Nat → Nat) : mixP K X T 4 = fil 0 32 (MIXB K X) T := by
  unfold mixP
  exact fil_app (o := 0) (k1 := 16) (k2 := 16) (fun b _ => rfl)
theorem core_s (K X S : Nat → Nat) (o : Nat) {i : Nat} : fil (o + 4 * i) 4 (byN (RND K X i + LAY K X i)) (fil o (4 * i) (COREB K X) S) = fil o (4 * (i + 1)) (COREB K X) S :=
  fil_app (fun b hb => by
    unfold COREB
    rw [show (4 * i + b) / 4 = i by omega, show (4 * i + b) % 4 = b by omega])
end
section
theorem d_Mx_quarter_0 : decode c_Mx_quarter 0 = .ok (.aload_n 0, 1) := by decide +kernel
theorem d_Mx_quarter_1 : decode c_Mx_quarter 1 = .ok (.getfield 15, 3) := by decide +kernel
theorem d_Mx_quarter_4 : decode c_Mx_quarter 4 = .ok (.iload_n 2, 1) := by decide +kernel
theorem d_Mx_quarter_5 : decode c_Mx_quarter 5 = .ok (.dup2, 1) := by decide +kernel
theorem d_Mx_quarter_6 : decode c_Mx_quarter 6 = .ok (.iaload, 1) := by decide +kernel
theorem d_Mx_quarter_7 : decode c_Mx_quarter 7 = .ok (.aload_n 0, 1) := by decide +kernel
theorem d_Mx_quarter_8 : decode c_Mx_quarter 8 = .ok (.getfield 15, 3) := by decide +kernel
theorem d_Mx_quarter_11 : decode c_Mx_quarter 11 = .ok (.iload_n 1, 1) := by decide +kernel
theorem d_Mx_quarter_12 : decode c_Mx_quarter 12 = .ok (.iaload, 1) := by decide +kernel
theorem d_Mx_quarter_13 : decode c_Mx_quarter 13 = .ok (.aload_n 0, 1) := by decide +kernel
theorem d_Mx_quarter_14 : decode c_Mx_quarter 14 = .ok (.getfield 15, 3) := by decide +kernel
theorem d_Mx_quarter_17 : decode c_Mx_quarter 17 = .ok (.iload 4, 2) := by decide +kernel
theorem d_Mx_quarter_19 : decode c_Mx_quarter 19 = .ok (.iaload, 1) := by decide +kernel
theorem d_Mx_quarter_20 : decode c_Mx_quarter 20 = .ok (.iadd, 1) := by decide +kernel
theorem d_Mx_quarter_21 : decode c_Mx_quarter 21 = .ok (.bipush 7, 2) := by decide +kernel
theorem d_Mx_quarter_23 : decode c_Mx_quarter 23 = .ok (.invokestatic 65, 3) := by decide +kernel
theorem d_Mx_quarter_26 : decode c_Mx_quarter 26 = .ok (.ixor, 1) := by decide +kernel
theorem d_Mx_quarter_27 : decode c_Mx_quarter 27 = .ok (.iastore, 1) := by decide +kernel
theorem d_Mx_quarter_28 : decode c_Mx_quarter 28 = .ok (.aload_n 0, 1) := by decide +kernel
theorem d_Mx_quarter_29 : decode c_Mx_quarter 29 = .ok (.getfield 15, 3) := by decide +kernel
theorem d_Mx_quarter_32 : decode c_Mx_quarter 32 = .ok (.iload_n 3, 1) := by decide +kernel
theorem d_Mx_quarter_33 : decode c_Mx_quarter 33 = .ok (.dup2, 1) := by decide +kernel
theorem d_Mx_quarter_34 : decode c_Mx_quarter 34 = .ok (.iaload, 1) := by decide +kernel
theorem d_Mx_quarter_35 : decode c_Mx_quarter 35 = .ok (.aload_n 0, 1) := by decide +kernel
theorem d_Mx_quarter_36 : decode c_Mx_quarter 36 = .ok (.getfield 15, 3) := by decide +kernel
theorem d_Mx_quarter_39 : decode c_Mx_quarter 39 = .ok (.iload_n 2, 1) := by decide +kernel
theorem d_Mx_quarter_40 : decode c_Mx_quarter 40 = .ok (.iaload, 1) := by decide +kernel
theorem d_Mx_quarter_41 : decode c_Mx_quarter 41 = .ok (.aload_n 0, 1) := by decide +kernel
theorem d_Mx_quarter_42 : decode c_Mx_quarter 42 = .ok (.getfield 15, 3) := by decide +kernel
theorem d_Mx_quarter_45 : decode c_Mx_quarter 45 = .ok (.iload_n 1, 1) := by decide +kernel
theorem d_Mx_quarter_46 : decode c_Mx_quarter 46 = .ok (.iaload, 1) := by decide +kernel
theorem d_Mx_quarter_47 : decode c_Mx_quarter 47 = .ok (.iadd, 1) := by decide +kernel
theorem d_Mx_quarter_48 : decode c_Mx_quarter 48 = .ok (.bipush 9, 2) := by decide +kernel
theorem d_Mx_quarter_50 : decode c_Mx_quarter 50 = .ok (.invokestatic 65, 3) := by decide +kernel
theorem d_Mx_quarter_53 : decode c_Mx_quarter 53 = .ok (.ixor, 1) := by decide +kernel
theorem d_Mx_quarter_54 : decode c_Mx_quarter 54 = .ok (.iastore, 1) := by decide +kernel
theorem d_Mx_quarter_55 : decode c_Mx_quarter 55 = .ok (.aload_n 0, 1) := by decide +kernel
theorem d_Mx_quarter_56 : decode c_Mx_quarter 56 = .ok (.getfield 15, 3) := by decide +kernel
theorem d_Mx_quarter_59 : decode c_Mx_quarter 59 = .ok (.iload 4, 2) := by decide +kernel
theorem d_Mx_quarter_61 : decode c_Mx_quarter 61 = .ok (.dup2, 1) := by decide +kernel
theorem d_Mx_quarter_62 : decode c_Mx_quarter 62 = .ok (.iaload, 1) := by decide +kernel
theorem d_Mx_quarter_63 : decode c_Mx_quarter 63 = .ok (.aload_n 0, 1) := by decide +kernel
theorem d_Mx_quarter_64 : decode c_Mx_quarter 64 = .ok (.getfield 15, 3) := by decide +kernel
theorem d_Mx_quarter_67 : decode c_Mx_quarter 67 = .ok (.iload_n 3, 1) := by decide +kernel
theorem d_Mx_quarter_68 : decode c_Mx_quarter 68 = .ok (.iaload, 1) := by decide +kernel
theorem d_Mx_quarter_69 : decode c_Mx_quarter 69 = .ok (.aload_n 0, 1) := by decide +kernel
theorem d_Mx_quarter_70 : decode c_Mx_quarter 70 = .ok (.getfield 15, 3) := by decide +kernel
theorem d_Mx_quarter_73 : decode c_Mx_quarter 73 = .ok (.iload_n 2, 1) := by decide +kernel
theorem d_Mx_quarter_74 : decode c_Mx_quarter 74 = .ok (.iaload, 1) := by decide +kernel
theorem d_Mx_quarter_75 : decode c_Mx_quarter 75 = .ok (.iadd, 1) := by decide +kernel
theorem d_Mx_quarter_76 : decode c_Mx_quarter 76 = .ok (.bipush 13, 2) := by decide +kernel
theorem d_Mx_quarter_78 : decode c_Mx_quarter 78 = .ok (.invokestatic 65, 3) := by decide +kernel
theorem d_Mx_quarter_81 : decode c_Mx_quarter 81 = .ok (.ixor, 1) := by decide +kernel
theorem d_Mx_quarter_82 : decode c_Mx_quarter 82 = .ok (.iastore, 1) := by decide +kernel
theorem d_Mx_quarter_83 : decode c_Mx_quarter 83 = .ok (.aload_n 0, 1) := by decide +kernel
theorem d_Mx_quarter_84 : decode c_Mx_quarter 84 = .ok (.getfield 15, 3) := by decide +kernel
theorem d_Mx_quarter_87 : decode c_Mx_quarter 87 = .ok (.iload_n 1, 1) := by decide +kernel
theorem d_Mx_quarter_88 : decode c_Mx_quarter 88 = .ok (.dup2, 1) := by decide +kernel
theorem d_Mx_quarter_89 : decode c_Mx_quarter 89 = .ok (.iaload, 1) := by decide +kernel
theorem d_Mx_quarter_90 : decode c_Mx_quarter 90 = .ok (.aload_n 0, 1) := by decide +kernel
theorem d_Mx_quarter_91 : decode c_Mx_quarter 91 = .ok (.getfield 15, 3) := by decide +kernel
theorem d_Mx_quarter_94 : decode c_Mx_quarter 94 = .ok (.iload 4, 2) := by decide +kernel
theorem d_Mx_quarter_96 : decode c_Mx_quarter 96 = .ok (.iaload, 1) := by decide +kernel
theorem d_Mx_quarter_97 : decode c_Mx_quarter 97 = .ok (.aload_n 0, 1) := by decide +kernel
theorem d_Mx_quarter_98 : decode c_Mx_quarter 98 = .ok (.getfield 15, 3) := by decide +kernel
theorem d_Mx_quarter_101 : decode c_Mx_quarter 101 = .ok (.iload_n 3, 1) := by decide +kernel
theorem d_Mx_quarter_102 : decode c_Mx_quarter 102 = .ok (.iaload, 1) := by decide +kernel
theorem d_Mx_quarter_103 : decode c_Mx_quarter 103 = .ok (.iadd, 1) := by decide +kernel
theorem d_Mx_quarter_104 : decode c_Mx_quarter 104 = .ok (.bipush 18, 2) := by decide +kernel
theorem d_Mx_quarter_106 : decode c_Mx_quarter 106 = .ok (.invokestatic 65, 3) := by decide +kernel
theorem d_Mx_quarter_109 : decode c_Mx_quarter 109 = .ok (.ixor, 1) := by decide +kernel
theorem d_Mx_quarter_110 : decode c_Mx_quarter 110 = .ok (.iastore, 1) := by decide +kernel
theorem d_Mx_quarter_111 : decode c_Mx_quarter 111 = .ok (.return_, 1) := by decide +kernel
set_option maxRecDepth 100000 in
set_option maxHeartbeats 4000000 in
/-- QUARTER -/
theorem m_Mx_quarter (l : Launch) (G : wG) (A : Nat → Prop) (ad : Nat → Nat) (ev : Nat → va_E) (i0 i1 i2 i3 : Nat) (ha0 : i0 < 16) (ha1 : i1 < 16) (ha2 : i2 < 16) (ha3 : i3 < 16) (f : Nat → Int32) (h6 : ev 6 = eO 2 [.ref (ad 7), .ref (ad 8), .ref (ad 9), .ref (ad 10), .ref (ad 11)]) (h8 : ev 8 = eI G 16 f) : wM l y_Mx_quarter w_Mx_quarter ({ frames := 3, cells := 0, slots := 0, locals := 100 }) G A 52 ad ev [.ref (ad 6), .int (nI (i0)), .int (nI (i1)), .int (nI (i2)), .int (nI (i3))] (fun ov ev' => ov = none ∧ ev' = va_up ev 8 (eI G 16 (qtr i0 i1 i2 i3 f))) := by
  refine wv_ofW (cc := c_Mx_quarter) (maxL := 5) (ret := none) (by decide) rfl (Nat.le_of_ble_eq_true rfl) ?_
  intro p e s m below meth c ls hx hb hr hml hts hown hlocks hini h hl
  have hl : lv_has ls 5 [(0, .ref (ad 6)), (1, .int (nI (i0))), (2, .int (nI (i1))), (3, .int (nI (i2))), (4, .int (nI (i3)))] := hl
  obtain ⟨f1, ef1⟩ : ∃ z, z = va_up f i1 (f i1 ^^^ rot (f i0 + f i3) (nI 7)) := ⟨_, rfl⟩
  obtain ⟨f2, ef2⟩ : ∃ z, z = va_up f1 i2 (f1 i2 ^^^ rot (f1 i1 + f1 i0) (nI 9)) := ⟨_, rfl⟩
  obtain ⟨f3, ef3⟩ : ∃ z, z = va_up f2 i3 (f2 i3 ^^^ rot (f2 i2 + f2 i1) (nI 13)) := ⟨_, rfl⟩
  refine lv_aload_n hx hb d_Mx_quarter_0 rfl (lv_at hl 0 rfl) ?_
  refine wv_getf hx hb h 6 (by decide) (fs := [.ref (ad 7), .ref (ad 8), .ref (ad 9), .ref (ad 10), .ref (ad 11)]) h6 hts (fun w hw => List.mem_cons_of_mem _ (fW_Mx w hw)) hown (ci := 2) (C := "NonceBox$Mixer") (T := fT_Mx) (N := 5) rfl 1 (by decide) (hts _ (List.mem_cons_of_mem _ kf_Mx_15)) rfl (v := .ref (ad 8)) rfl d_Mx_quarter_1 ?_
  refine lv_iload_n hx hb d_Mx_quarter_4 rfl (lv_at hl 2 rfl) ?_
  refine lv_dup2_11 hx hb d_Mx_quarter_5 rfl rfl ?_
  refine wv_iald hx hb h 8 (by decide) (f := f) h8 (k := i1) rfl (by omega) (by decide) d_Mx_quarter_6 ?_
  refine lv_aload_n hx hb d_Mx_quarter_7 rfl (lv_at hl 0 rfl) ?_
  refine wv_getf hx hb h 6 (by decide) (fs := [.ref (ad 7), .ref (ad 8), .ref (ad 9), .ref (ad 10), .ref (ad 11)]) h6 hts (fun w hw => List.mem_cons_of_mem _ (fW_Mx w hw)) hown (ci := 2) (C := "NonceBox$Mixer") (T := fT_Mx) (N := 5) rfl 1 (by decide) (hts _ (List.mem_cons_of_mem _ kf_Mx_15)) rfl (v := .ref (ad 8)) rfl d_Mx_quarter_8 ?_
  refine lv_iload_n hx hb d_Mx_quarter_11 rfl (lv_at hl 1 rfl) ?_
  refine wv_iald hx hb h 8 (by decide) (f := f) h8 (k := i0) rfl (by omega) (by decide) d_Mx_quarter_12 ?_
  refine lv_aload_n hx hb d_Mx_quarter_13 rfl (lv_at hl 0 rfl) ?_
  refine wv_getf hx hb h 6 (by decide) (fs := [.ref (ad 7), .ref (ad 8), .ref (ad 9), .ref (ad 10), .ref (ad 11)]) h6 hts (fun w hw => List.mem_cons_of_mem _ (fW_Mx w hw)) hown (ci := 2) (C := "NonceBox$Mixer") (T := fT_Mx) (N := 5) rfl 1 (by decide) (hts _ (List.mem_cons_of_mem _ kf_Mx_15)) rfl (v := .ref (ad 8)) rfl d_Mx_quarter_14 ?_
  refine lv_iload hx hb d_Mx_quarter_17 (lv_at hl 4 rfl) ?_
  refine wv_iald hx hb h 8 (by decide) (f := f) h8 (k := i3) rfl (by omega) (by decide) d_Mx_quarter_19 ?_
  refine lv_iadd hx hb d_Mx_quarter_20 ?_
  refine lv_bipush (v := nI (7)) hx hb d_Mx_quarter_21 (by decide) ?_
  refine wv_Sx (As := [.int ((f i0) + (f i3)), .int (nI (7))]) (rest := [.int (f i1), .int (nI (i1)), .ref (ad 8)]) (k := 2) ⟨hx, hb, hml, hown, hts⟩ h (m_Mx_rotated l G A ad ev _ _) kc_Mx_rotated kl_Mx_65 ks_Mx_rotated ki_Mx (by decide +kernel) ⟨rfl, rfl, Nat.le_of_ble_eq_true rfl, Nat.le_of_ble_eq_true rfl⟩ hl.1 rfl rfl (Nat.le_of_ble_eq_true rfl) ⟨Nat.le_refl _, Nat.le_refl _⟩ d_Mx_quarter_23 ?_
  intro ov ev1 H locs hp h
  rw [hp.1]
  refine W.eq (g2 := F0 m 26 ls [.int (rot (f i0 + f i3) (nI 7)), .int (f i1), .int (nI (i1)), .ref (ad 8)]) rfl ?_
  rw [hp.2] at h
  refine lv_ixor hx hb d_Mx_quarter_26 ?_
  refine wv_iast hx hb h 8 (by decide) (f := f) h8 (k := i1) rfl (by omega) (by decide) d_Mx_quarter_27 (fun H locs h => ?_)
  obtain ⟨ev1, o1⟩ : ∃ z, z = va_up ev 8 (eI G 16 (va_up f i1 ((f i1) ^^^ (rot (f i0 + f i3) (nI 7))))) := ⟨_, rfl⟩
  rw [← o1] at h
  have t1_8 : ev1 8 = eI G 16 (va_up f i1 ((f i1) ^^^ (rot (f i0 + f i3) (nI 7)))) := by rw [o1, va_up_self]
  have t1_6 := (show ev1 6 = ev 6 by rw [o1, va_up_ne _ _ (by decide)]).trans h6
  rw [← ef1] at o1 t1_8
  refine lv_aload_n hx hb d_Mx_quarter_28 rfl (lv_at hl 0 rfl) ?_
  refine wv_getf hx hb h 6 (by decide) (fs := [.ref (ad 7), .ref (ad 8), .ref (ad 9), .ref (ad 10), .ref (ad 11)]) t1_6 hts (fun w hw => List.mem_cons_of_mem _ (fW_Mx w hw)) hown (ci := 2) (C := "NonceBox$Mixer") (T := fT_Mx) (N := 5) rfl 1 (by decide) (hts _ (List.mem_cons_of_mem _ kf_Mx_15)) rfl (v := .ref (ad 8)) rfl d_Mx_quarter_29 ?_
  refine lv_iload_n hx hb d_Mx_quarter_32 rfl (lv_at hl 3 rfl) ?_
  refine lv_dup2_11 hx hb d_Mx_quarter_33 rfl rfl ?_
  refine wv_iald hx hb h 8 (by decide) (f := f1) t1_8 (k := i2) rfl (by omega) (by decide) d_Mx_quarter_34 ?_
  refine lv_aload_n hx hb d_Mx_quarter_35 rfl (lv_at hl 0 rfl) ?_
  refine wv_getf hx hb h 6 (by decide) (fs := [.ref (ad 7), .ref (ad 8), .ref (ad 9), .ref (ad 10), .ref (ad 11)]) t1_6 hts (fun w hw => List.mem_cons_of_mem _ (fW_Mx w hw)) hown (ci := 2) (C := "NonceBox$Mixer") (T := fT_Mx) (N := 5) rfl 1 (by decide) (hts _ (List.mem_cons_of_mem _ kf_Mx_15)) rfl (v := .ref (ad 8)) rfl d_Mx_quarter_36 ?_
  refine lv_iload_n hx hb d_Mx_quarter_39 rfl (lv_at hl 2 rfl) ?_
  refine wv_iald hx hb h 8 (by decide) (f := f1) t1_8 (k := i1) rfl (by omega) (by decide) d_Mx_quarter_40 ?_
  refine lv_aload_n hx hb d_Mx_quarter_41 rfl (lv_at hl 0 rfl) ?_
  refine wv_getf hx hb h 6 (by decide) (fs := [.ref (ad 7), .ref (ad 8), .ref (ad 9), .ref (ad 10), .ref (ad 11)]) t1_6 hts (fun w hw => List.mem_cons_of_mem _ (fW_Mx w hw)) hown (ci := 2) (C := "NonceBox$Mixer") (T := fT_Mx) (N := 5) rfl 1 (by decide) (hts _ (List.mem_cons_of_mem _ kf_Mx_15)) rfl (v := .ref (ad 8)) rfl d_Mx_quarter_42 ?_
  refine lv_iload_n hx hb d_Mx_quarter_45 rfl (lv_at hl 1 rfl) ?_
  refine wv_iald hx hb h 8 (by decide) (f := f1) t1_8 (k := i0) rfl (by omega) (by decide) d_Mx_quarter_46 ?_
  refine lv_iadd hx hb d_Mx_quarter_47 ?_
  refine lv_bipush (v := nI (9)) hx hb d_Mx_quarter_48 (by decide) ?_
  refine wv_Sx (As := [.int ((f1 i1) + (f1 i0)), .int (nI (9))]) (rest := [.int (f1 i2), .int (nI (i2)), .ref (ad 8)]) (k := 2) ⟨hx, hb, hml, hown, hts⟩ h (m_Mx_rotated l G A ad ev1 _ _) kc_Mx_rotated kl_Mx_65 ks_Mx_rotated ki_Mx (by decide +kernel) ⟨rfl, rfl, Nat.le_of_ble_eq_true rfl, Nat.le_of_ble_eq_true rfl⟩ hl.1 rfl rfl (Nat.le_of_ble_eq_true rfl) ⟨Nat.le_refl _, Nat.le_refl _⟩ d_Mx_quarter_50 ?_
  intro ov ev2 H locs hp h
  rw [hp.1]
  refine W.eq (g2 := F0 m 53 ls [.int (rot (f1 i1 + f1 i0) (nI 9)), .int (f1 i2), .int (nI (i2)), .ref (ad 8)]) rfl ?_
  rw [hp.2] at h
  refine lv_ixor hx hb d_Mx_quarter_53 ?_
  refine wv_iast hx hb h 8 (by decide) (f := f1) t1_8 (k := i2) rfl (by omega) (by decide) d_Mx_quarter_54 (fun H locs h => ?_)
  obtain ⟨ev2, o2⟩ : ∃ z, z = va_up ev1 8 (eI G 16 (va_up f1 i2 ((f1 i2) ^^^ (rot (f1 i1 + f1 i0) (nI 9))))) := ⟨_, rfl⟩
  rw [← o2] at h
  have t2_8 : ev2 8 = eI G 16 (va_up f1 i2 ((f1 i2) ^^^ (rot (f1 i1 + f1 i0) (nI 9)))) := by rw [o2, va_up_self]
  have t2_6 := (show ev2 6 = ev1 6 by rw [o2, va_up_ne _ _ (by decide)]).trans t1_6
  rw [← ef2] at o2 t2_8
  refine lv_aload_n hx hb d_Mx_quarter_55 rfl (lv_at hl 0 rfl) ?_
  refine wv_getf hx hb h 6 (by decide) (fs := [.ref (ad 7), .ref (ad 8), .ref (ad 9), .ref (ad 10), .ref (ad 11)]) t2_6 hts (fun w hw => List.mem_cons_of_mem _ (fW_Mx w hw)) hown (ci := 2) (C := "NonceBox$Mixer") (T := fT_Mx) (N := 5) rfl 1 (by decide) (hts _ (List.mem_cons_of_mem _ kf_Mx_15)) rfl (v := .ref (ad 8)) rfl d_Mx_quarter_56 ?_
  refine lv_iload hx hb d_Mx_quarter_59 (lv_at hl 4 rfl) ?_
  refine lv_dup2_11 hx hb d_Mx_quarter_61 rfl rfl ?_
  refine wv_iald hx hb h 8 (by decide) (f := f2) t2_8 (k := i3) rfl (by omega) (by decide) d_Mx_quarter_62 ?_
  refine lv_aload_n hx hb d_Mx_quarter_63 rfl (lv_at hl 0 rfl) ?_
  refine wv_getf hx hb h 6 (by decide) (fs := [.ref (ad 7), .ref (ad 8), .ref (ad 9), .ref (ad 10), .ref (ad 11)]) t2_6 hts (fun w hw => List.mem_cons_of_mem _ (fW_Mx w hw)) hown (ci := 2) (C := "NonceBox$Mixer") (T := fT_Mx) (N := 5) rfl 1 (by decide) (hts _ (List.mem_cons_of_mem _ kf_Mx_15)) rfl (v := .ref (ad 8)) rfl d_Mx_quarter_64 ?_
  refine lv_iload_n hx hb d_Mx_quarter_67 rfl (lv_at hl 3 rfl) ?_
  refine wv_iald hx hb h 8 (by decide) (f := f2) t2_8 (k := i2) rfl (by omega) (by decide) d_Mx_quarter_68 ?_
  refine lv_aload_n hx hb d_Mx_quarter_69 rfl (lv_at hl 0 rfl) ?_
  refine wv_getf hx hb h 6 (by decide) (fs := [.ref (ad 7), .ref (ad 8), .ref (ad 9), .ref (ad 10), .ref (ad 11)]) t2_6 hts (fun w hw => List.mem_cons_of_mem _ (fW_Mx w hw)) hown (ci := 2) (C := "NonceBox$Mixer") (T := fT_Mx) (N := 5) rfl 1 (by decide) (hts _ (List.mem_cons_of_mem _ kf_Mx_15)) rfl (v := .ref (ad 8)) rfl d_Mx_quarter_70 ?_
  refine lv_iload_n hx hb d_Mx_quarter_73 rfl (lv_at hl 2 rfl) ?_
  refine wv_iald hx hb h 8 (by decide) (f := f2) t2_8 (k := i1) rfl (by omega) (by decide) d_Mx_quarter_74 ?_
  refine lv_iadd hx hb d_Mx_quarter_75 ?_
  refine lv_bipush (v := nI (13)) hx hb d_Mx_quarter_76 (by decide) ?_
  refine wv_Sx (As := [.int ((f2 i2) + (f2 i1)), .int (nI (13))]) (rest := [.int (f2 i3), .int (nI (i3)), .ref (ad 8)]) (k := 2) ⟨hx, hb, hml, hown, hts⟩ h (m_Mx_rotated l G A ad ev2 _ _) kc_Mx_rotated kl_Mx_65 ks_Mx_rotated ki_Mx (by decide +kernel) ⟨rfl, rfl, Nat.le_of_ble_eq_true rfl, Nat.le_of_ble_eq_true rfl⟩ hl.1 rfl rfl (Nat.le_of_ble_eq_true rfl) ⟨Nat.le_refl _, Nat.le_refl _⟩ d_Mx_quarter_78 ?_
  intro ov ev3 H locs hp h
  rw [hp.1]
  refine W.eq (g2 := F0 m 81 ls [.int (rot (f2 i2 + f2 i1) (nI 13)), .int (f2 i3), .int (nI (i3)), .ref (ad 8)]) rfl ?_
  rw [hp.2] at h
  refine lv_ixor hx hb d_Mx_quarter_81 ?_
  refine wv_iast hx hb h 8 (by decide) (f := f2) t2_8 (k := i3) rfl (by omega) (by decide) d_Mx_quarter_82 (fun H locs h => ?_)
  obtain ⟨ev3, o3⟩ : ∃ z, z = va_up ev2 8 (eI G 16 (va_up f2 i3 ((f2 i3) ^^^ (rot (f2 i2 + f2 i1) (nI 13))))) := ⟨_, rfl⟩
  rw [← o3] at h
  have t3_8 : ev3 8 = eI G 16 (va_up f2 i3 ((f2 i3) ^^^ (rot (f2 i2 + f2 i1) (nI 13)))) := by rw [o3, va_up_self]
  have t3_6 := (show ev3 6 = ev2 6 by rw [o3, va_up_ne _ _ (by decide)]).trans t2_6
  rw [← ef3] at o3 t3_8
  refine lv_aload_n hx hb d_Mx_quarter_83 rfl (lv_at hl 0 rfl) ?_
  refine wv_getf hx hb h 6 (by decide) (fs := [.ref (ad 7), .ref (ad 8), .ref (ad 9), .ref (ad 10), .ref (ad 11)]) t3_6 hts (fun w hw => List.mem_cons_of_mem _ (fW_Mx w hw)) hown (ci := 2) (C := "NonceBox$Mixer") (T := fT_Mx) (N := 5) rfl 1 (by decide) (hts _ (List.mem_cons_of_mem _ kf_Mx_15)) rfl (v := .ref (ad 8)) rfl d_Mx_quarter_84 ?_
  refine lv_iload_n hx hb d_Mx_quarter_87 rfl (lv_at hl 1 rfl) ?_
  refine lv_dup2_11 hx hb d_Mx_quarter_88 rfl rfl ?_
  refine wv_iald hx hb h 8 (by decide) (f := f3) t3_8 (k := i0) rfl (by omega) (by decide) d_Mx_quarter_89 ?_
  refine lv_aload_n hx hb d_Mx_quarter_90 rfl (lv_at hl 0 rfl) ?_
  refine wv_getf hx hb h 6 (by decide) (fs := [.ref (ad 7), .ref (ad 8), .ref (ad 9), .ref (ad 10), .ref (ad 11)]) t3_6 hts (fun w hw => List.mem_cons_of_mem _ (fW_Mx w hw)) hown (ci := 2) (C := "NonceBox$Mixer") (T := fT_Mx) (N := 5) rfl 1 (by decide) (hts _ (List.mem_cons_of_mem _ kf_Mx_15)) rfl (v := .ref (ad 8)) rfl d_Mx_quarter_91 ?_
  refine lv_iload hx hb d_Mx_quarter_94 (lv_at hl 4 rfl) ?_
  refine wv_iald hx hb h 8 (by decide) (f := f3) t3_8 (k := i3) rfl (by omega) (by decide) d_Mx_quarter_96 ?_
  refine lv_aload_n hx hb d_Mx_quarter_97 rfl (lv_at hl 0 rfl) ?_
  refine wv_getf hx hb h 6 (by decide) (fs := [.ref (ad 7), .ref (ad 8), .ref (ad 9), .ref (ad 10), .ref (ad 11)]) t3_6 hts (fun w hw => List.mem_cons_of_mem _ (fW_Mx w hw)) hown (ci := 2) (C := "NonceBox$Mixer") (T := fT_Mx) (N := 5) rfl 1 (by decide) (hts _ (List.mem_cons_of_mem _ kf_Mx_15)) rfl (v := .ref (ad 8)) rfl d_Mx_quarter_98 ?_
  refine lv_iload_n hx hb d_Mx_quarter_101 rfl (lv_at hl 3 rfl) ?_
  refine wv_iald hx hb h 8 (by decide) (f := f3) t3_8 (k := i2) rfl (by omega) (by decide) d_Mx_quarter_102 ?_
  refine lv_iadd hx hb d_Mx_quarter_103 ?_
  refine lv_bipush (v := nI (18)) hx hb d_Mx_quarter_104 (by decide) ?_
  refine wv_Sx (As := [.int ((f3 i3) + (f3 i2)), .int (nI (18))]) (rest := [.int (f3 i0), .int (nI (i0)), .ref (ad 8)]) (k := 2) ⟨hx, hb, hml, hown, hts⟩ h (m_Mx_rotated l G A ad ev3 _ _) kc_Mx_rotated kl_Mx_65 ks_Mx_rotated ki_Mx (by decide +kernel) ⟨rfl, rfl, Nat.le_of_ble_eq_true rfl, Nat.le_of_ble_eq_true rfl⟩ hl.1 rfl rfl (Nat.le_of_ble_eq_true rfl) ⟨Nat.le_refl _, Nat.le_refl _⟩ d_Mx_quarter_106 ?_
  intro ov ev4 H locs hp h
  rw [hp.1]
  refine W.eq (g2 := F0 m 109 ls [.int (rot (f3 i3 + f3 i2) (nI 18)), .int (f3 i0), .int (nI (i0)), .ref (ad 8)]) rfl ?_
  rw [hp.2] at h
  refine lv_ixor hx hb d_Mx_quarter_109 ?_
  refine wv_iast hx hb h 8 (by decide) (f := f3) t3_8 (k := i0) rfl (by omega) (by decide) d_Mx_quarter_110 (fun H locs h => ?_)
  obtain ⟨ev4, o4⟩ : ∃ z, z = va_up ev3 8 (eI G 16 (va_up f3 i0 ((f3 i0) ^^^ (rot (f3 i3 + f3 i2) (nI 18))))) := ⟨_, rfl⟩
  rw [← o4] at h
  have t4_8 : ev4 8 = eI G 16 (va_up f3 i0 ((f3 i0) ^^^ (rot (f3 i3 + f3 i2) (nI 18)))) := by rw [o4, va_up_self]
  have t4_6 := (show ev4 6 = ev3 6 by rw [o4, va_up_ne _ _ (by decide)]).trans t3_6
  refine wv_vret hx hb hr hlocks h d_Mx_quarter_111 ⟨rfl, ?_⟩
  rw [o4, o3, o2, o1, va_up2, va_up2, va_up2, ef3, ef2, ef1]
  rfl
theorem d_Mx_turnRounds_0 : decode c_Mx_turnRounds 0 = .ok (.iconst 0, 1) := by decide +kernel
theorem d_Mx_turnRounds_1 : decode c_Mx_turnRounds 1 = .ok (.istore_n 1, 1) := by decide +kernel
theorem d_Mx_turnRounds_2 : decode c_Mx_turnRounds 2 = .ok (.iload_n 1, 1) := by decide +kernel
theorem d_Mx_turnRounds_3 : decode c_Mx_turnRounds 3 = .ok (.bipush 10, 2) := by decide +kernel
theorem d_Mx_turnRounds_5 : decode c_Mx_turnRounds 5 = .ok (.if_icmp .ge 93, 3) := by decide +kernel
theorem d_Mx_turnRounds_8 : decode c_Mx_turnRounds 8 = .ok (.aload_n 0, 1) := by decide +kernel
theorem d_Mx_turnRounds_9 : decode c_Mx_turnRounds 9 = .ok (.iconst 0, 1) := by decide +kernel
theorem d_Mx_turnRounds_10 : decode c_Mx_turnRounds 10 = .ok (.iconst 4, 1) := by decide +kernel
theorem d_Mx_turnRounds_11 : decode c_Mx_turnRounds 11 = .ok (.bipush 8, 2) := by decide +kernel
theorem d_Mx_turnRounds_13 : decode c_Mx_turnRounds 13 = .ok (.bipush 12, 2) := by decide +kernel
theorem d_Mx_turnRounds_15 : decode c_Mx_turnRounds 15 = .ok (.invokevirtual 61, 3) := by decide +kernel
theorem d_Mx_turnRounds_18 : decode c_Mx_turnRounds 18 = .ok (.aload_n 0, 1) := by decide +kernel
theorem d_Mx_turnRounds_19 : decode c_Mx_turnRounds 19 = .ok (.iconst 5, 1) := by decide +kernel
theorem d_Mx_turnRounds_20 : decode c_Mx_turnRounds 20 = .ok (.bipush 9, 2) := by decide +kernel
theorem d_Mx_turnRounds_22 : decode c_Mx_turnRounds 22 = .ok (.bipush 13, 2) := by decide +kernel
theorem d_Mx_turnRounds_24 : decode c_Mx_turnRounds 24 = .ok (.iconst 1, 1) := by decide +kernel
theorem d_Mx_turnRounds_25 : decode c_Mx_turnRounds 25 = .ok (.invokevirtual 61, 3) := by decide +kernel
theorem d_Mx_turnRounds_28 : decode c_Mx_turnRounds 28 = .ok (.aload_n 0, 1) := by decide +kernel
theorem d_Mx_turnRounds_29 : decode c_Mx_turnRounds 29 = .ok (.bipush 10, 2) := by decide +kernel
theorem d_Mx_turnRounds_31 : decode c_Mx_turnRounds 31 = .ok (.bipush 14, 2) := by decide +kernel
theorem d_Mx_turnRounds_33 : decode c_Mx_turnRounds 33 = .ok (.iconst 2, 1) := by decide +kernel
theorem d_Mx_turnRounds_34 : decode c_Mx_turnRounds 34 = .ok (.bipush 6, 2) := by decide +kernel
theorem d_Mx_turnRounds_36 : decode c_Mx_turnRounds 36 = .ok (.invokevirtual 61, 3) := by decide +kernel
theorem d_Mx_turnRounds_39 : decode c_Mx_turnRounds 39 = .ok (.aload_n 0, 1) := by decide +kernel
theorem d_Mx_turnRounds_40 : decode c_Mx_turnRounds 40 = .ok (.bipush 15, 2) := by decide +kernel
theorem d_Mx_turnRounds_42 : decode c_Mx_turnRounds 42 = .ok (.iconst 3, 1) := by decide +kernel
theorem d_Mx_turnRounds_43 : decode c_Mx_turnRounds 43 = .ok (.bipush 7, 2) := by decide +kernel
theorem d_Mx_turnRounds_45 : decode c_Mx_turnRounds 45 = .ok (.bipush 11, 2) := by decide +kernel
theorem d_Mx_turnRounds_47 : decode c_Mx_turnRounds 47 = .ok (.invokevirtual 61, 3) := by decide +kernel
theorem d_Mx_turnRounds_50 : decode c_Mx_turnRounds 50 = .ok (.aload_n 0, 1) := by decide +kernel
theorem d_Mx_turnRounds_51 : decode c_Mx_turnRounds 51 = .ok (.iconst 0, 1) := by decide +kernel
theorem d_Mx_turnRounds_52 : decode c_Mx_turnRounds 52 = .ok (.iconst 1, 1) := by decide +kernel
theorem d_Mx_turnRounds_53 : decode c_Mx_turnRounds 53 = .ok (.iconst 2, 1) := by decide +kernel
theorem d_Mx_turnRounds_54 : decode c_Mx_turnRounds 54 = .ok (.iconst 3, 1) := by decide +kernel
theorem d_Mx_turnRounds_55 : decode c_Mx_turnRounds 55 = .ok (.invokevirtual 61, 3) := by decide +kernel
theorem d_Mx_turnRounds_58 : decode c_Mx_turnRounds 58 = .ok (.aload_n 0, 1) := by decide +kernel
theorem d_Mx_turnRounds_59 : decode c_Mx_turnRounds 59 = .ok (.iconst 5, 1) := by decide +kernel
theorem d_Mx_turnRounds_60 : decode c_Mx_turnRounds 60 = .ok (.bipush 6, 2) := by decide +kernel
theorem d_Mx_turnRounds_62 : decode c_Mx_turnRounds 62 = .ok (.bipush 7, 2) := by decide +kernel
theorem d_Mx_turnRounds_64 : decode c_Mx_turnRounds 64 = .ok (.iconst 4, 1) := by decide +kernel
theorem d_Mx_turnRounds_65 : decode c_Mx_turnRounds 65 = .ok (.invokevirtual 61, 3) := by decide +kernel
theorem d_Mx_turnRounds_68 : decode c_Mx_turnRounds 68 = .ok (.aload_n 0, 1) := by decide +kernel
theorem d_Mx_turnRounds_69 : decode c_Mx_turnRounds 69 = .ok (.bipush 10, 2) := by decide +kernel
theorem d_Mx_turnRounds_71 : decode c_Mx_turnRounds 71 = .ok (.bipush 11, 2) := by decide +kernel
theorem d_Mx_turnRounds_73 : decode c_Mx_turnRounds 73 = .ok (.bipush 8, 2) := by decide +kernel
theorem d_Mx_turnRounds_75 : decode c_Mx_turnRounds 75 = .ok (.bipush 9, 2) := by decide +kernel
theorem d_Mx_turnRounds_77 : decode c_Mx_turnRounds 77 = .ok (.invokevirtual 61, 3) := by decide +kernel
theorem d_Mx_turnRounds_80 : decode c_Mx_turnRounds 80 = .ok (.aload_n 0, 1) := by decide +kernel
theorem d_Mx_turnRounds_81 : decode c_Mx_turnRounds 81 = .ok (.bipush 15, 2) := by decide +kernel
theorem d_Mx_turnRounds_83 : decode c_Mx_turnRounds 83 = .ok (.bipush 12, 2) := by decide +kernel
theorem d_Mx_turnRounds_85 : decode c_Mx_turnRounds 85 = .ok (.bipush 13, 2) := by decide +kernel
theorem d_Mx_turnRounds_87 : decode c_Mx_turnRounds 87 = .ok (.bipush 14, 2) := by decide +kernel
theorem d_Mx_turnRounds_89 : decode c_Mx_turnRounds 89 = .ok (.invokevirtual 61, 3) := by decide +kernel
theorem d_Mx_turnRounds_92 : decode c_Mx_turnRounds 92 = .ok (.iinc 1 1, 3) := by decide +kernel
theorem d_Mx_turnRounds_95 : decode c_Mx_turnRounds 95 = .ok (.goto (-93), 3) := by decide +kernel
theorem d_Mx_turnRounds_98 : decode c_Mx_turnRounds 98 = .ok (.return_, 1) := by decide +kernel
set_option maxRecDepth 100000 in
set_option maxHeartbeats 4000000 in
/-- ten times the eight QUARTERs -/
theorem m_Mx_turnRounds (l : Launch) (G : wG) (A : Nat → Prop) (ad : Nat → Nat) (ev : Nat → va_E) (f : Nat → Int32) (h6 : ev 6 = eO 2 [.ref (ad 7), .ref (ad 8), .ref (ad 9), .ref (ad 10), .ref (ad 11)]) (h8 : ev 8 = eI G 16 f) : wM l y_Mx_turnRounds w_Mx_turnRounds ({ frames := 6, cells := 0, slots := 0, locals := 200 }) G A 52 ad ev [.ref (ad 6)] (fun ov ev' => ov = none ∧ ev' = va_up ev 8 (eI G 16 (rnds 10 f))) := by
  refine wv_ofW (cc := c_Mx_turnRounds) (maxL := 2) (ret := none) (by decide) rfl (Nat.le_of_ble_eq_true rfl) ?_
  intro p e s m below meth c ls hx hb hr hml hts hown hlocks hini h hl
  have hl : lv_has ls 2 [(0, .ref (ad 6))] := hl
  refine lv_iconst (v := nI (0)) hx hb d_Mx_turnRounds_0 (by decide) ?_
  refine lv_istore_n (lv' := [(1, .int (nI (0))), (0, .ref (ad 6))]) hx hb d_Mx_turnRounds_1 rfl hl (by decide) rfl (fun ls hl => ?_)
  have loop1 : ∀ (d k : Nat), k + d = 10 →  ∀ (ev1 : Nat → va_E) (H : Heap) (locs : List Loc) (ls : Array Slot), ev1 = (va_up ev 8 (eI G 16 (rnds k f))) → wT G A 52 ad ev1 s H locs → lv_has ls 2 [(1, .int (nI (k))), (0, .ref (ad 6))] → W p l e ({ frames := 6, cells := 0, slots := 0, locals := 200 }) s m ([.ref (ad 6)] : List Value).toArray below meth c H locs 0 0 (MQ below (wQc G A 52 ad (fun ov ev' => ov = none ∧ ev' = va_up ev 8 (eI G 16 (rnds 10 f)))) ([.ref (ad 6)] : List Value).toArray s 0 0 A) (F0 m 2 ls []) := by
    intro d
    induction d with
    | zero =>
      intro k hk_k  ev1 H locs ls  o1 h hl
      have t1_8 : ev1 8 = eI G 16 (rnds k f) := by rw [o1, va_up_self]
      have t1_6 := (show ev1 6 = ev 6 by rw [o1, va_up_ne _ _ (by decide)]).trans h6
      refine lv_iload_n hx hb d_Mx_turnRounds_2 rfl (lv_at hl 0 rfl) ?_
      refine lv_bipush (v := nI (10)) hx hb d_Mx_turnRounds_3 (by decide) ?_
      refine lv_icmp_ge (tgt := 98) hx hb d_Mx_turnRounds_5 (by decide) (fun _ => ?_) (fun hc => absurd ((nI_leI (by omega) (by omega)).mpr (by omega)) hc)
      refine wv_vret hx hb hr hlocks h d_Mx_turnRounds_98 ⟨rfl, ?_⟩
      rw [o1, show k = 10 by omega]
    | succ d ih =>
      intro k hk_k  ev1 H locs ls  o1 h hl
      have t1_8 : ev1 8 = eI G 16 (rnds k f) := by rw [o1, va_up_self]
      have t1_6 := (show ev1 6 = ev 6 by rw [o1, va_up_ne _ _ (by decide)]).trans h6
      refine lv_iload_n hx hb d_Mx_turnRounds_2 rfl (lv_at hl 0 rfl) ?_
      refine lv_bipush (v := nI (10)) hx hb d_Mx_turnRounds_3 (by decide) ?_
      refine lv_icmp_ge (tgt := 98) hx hb d_Mx_turnRounds_5 (by decide) (fun hc => absurd ((nI_leI (by omega) (by omega)).mp hc) (by omega)) (fun _ => ?_)
      refine lv_aload_n hx hb d_Mx_turnRounds_8 rfl (lv_at hl 1 rfl) ?_
      refine lv_iconst (v := nI (0)) hx hb d_Mx_turnRounds_9 (by decide) ?_
      refine lv_iconst (v := nI (4)) hx hb d_Mx_turnRounds_10 (by decide) ?_
      refine lv_bipush (v := nI (8)) hx hb d_Mx_turnRounds_11 (by decide) ?_
      refine lv_bipush (v := nI (12)) hx hb d_Mx_turnRounds_13 (by decide) ?_
      refine wv_V (As := [.int (nI (0)), .int (nI (4)), .int (nI (8)), .int (nI (12))]) (rest := []) (k := 4) ⟨hx, hb, hml, hown, hts⟩ h 6 (by decide) (C := "NonceBox$Mixer") t1_6 rfl (m_Mx_quarter l G A ad ev1 0 4 8 12 (by decide) (by decide) (by decide) (by decide) (rnds k f) t1_6 t1_8) kc_Mx_quarter kl_Mx_61 km_Mx_quarter kv_Mx_quarter ki_Mx (by decide +kernel) ⟨rfl, rfl, Nat.le_of_ble_eq_true rfl, Nat.le_of_ble_eq_true rfl⟩ hl.1 rfl rfl (Nat.le_of_ble_eq_true rfl) ⟨Nat.le_refl _, Nat.le_refl _⟩ d_Mx_turnRounds_15 ?_
      intro ov ev2 H locs hp h
      rw [hp.1]
      refine W.eq (g2 := F0 m 18 ls []) rfl ?_
      have o2 := hp.2
      have t2_8 : ev2 8 = eI G 16 (qtr 0 4 8 12 (rnds k f)) := by rw [o2, va_up_self]
      have t2_6 := (show ev2 6 = ev1 6 by rw [o2, va_up_ne _ _ (by decide)]).trans t1_6
      refine lv_aload_n hx hb d_Mx_turnRounds_18 rfl (lv_at hl 1 rfl) ?_
      refine lv_iconst (v := nI (5)) hx hb d_Mx_turnRounds_19 (by decide) ?_
      refine lv_bipush (v := nI (9)) hx hb d_Mx_turnRounds_20 (by decide) ?_
      refine lv_bipush (v := nI (13)) hx hb d_Mx_turnRounds_22 (by decide) ?_
      refine lv_iconst (v := nI (1)) hx hb d_Mx_turnRounds_24 (by decide) ?_
      refine wv_V (As := [.int (nI (5)), .int (nI (9)), .int (nI (13)), .int (nI (1))]) (rest := []) (k := 4) ⟨hx, hb, hml, hown, hts⟩ h 6 (by decide) (C := "NonceBox$Mixer") t2_6 rfl (m_Mx_quarter l G A ad ev2 5 9 13 1 (by decide) (by decide) (by decide) (by decide) (qtr 0 4 8 12 (rnds k f)) t2_6 t2_8) kc_Mx_quarter kl_Mx_61 km_Mx_quarter kv_Mx_quarter ki_Mx (by decide +kernel) ⟨rfl, rfl, Nat.le_of_ble_eq_true rfl, Nat.le_of_ble_eq_true rfl⟩ hl.1 rfl rfl (Nat.le_of_ble_eq_true rfl) ⟨Nat.le_refl _, Nat.le_refl _⟩ d_Mx_turnRounds_25 ?_
      intro ov ev3 H locs hp h
      rw [hp.1]
      refine W.eq (g2 := F0 m 28 ls []) rfl ?_
      have o3 := hp.2
      have t3_8 : ev3 8 = eI G 16 (qtr 5 9 13 1 (qtr 0 4 8 12 (rnds k f))) := by rw [o3, va_up_self]
      have t3_6 := (show ev3 6 = ev2 6 by rw [o3, va_up_ne _ _ (by decide)]).trans t2_6
      refine lv_aload_n hx hb d_Mx_turnRounds_28 rfl (lv_at hl 1 rfl) ?_
      refine lv_bipush (v := nI (10)) hx hb d_Mx_turnRounds_29 (by decide) ?_
      refine lv_bipush (v := nI (14)) hx hb d_Mx_turnRounds_31 (by decide) ?_
      refine lv_iconst (v := nI (2)) hx hb d_Mx_turnRounds_33 (by decide) ?_
      refine lv_bipush (v := nI (6)) hx hb d_Mx_turnRounds_34 (by decide) ?_
      refine wv_V (As := [.int (nI (10)), .int (nI (14)), .int (nI (2)), .int (nI (6))]) (rest := []) (k := 4) ⟨hx, hb, hml, hown, hts⟩ h 6 (by decide) (C := "NonceBox$Mixer") t3_6 rfl (m_Mx_quarter l G A ad ev3 10 14 2 6 (by decide) (by decide) (by decide) (by decide) (qtr 5 9 13 1 (qtr 0 4 8 12 (rnds k f))) t3_6 t3_8) kc_Mx_quarter kl_Mx_61 km_Mx_quarter kv_Mx_quarter ki_Mx (by decide +kernel) ⟨rfl, rfl, Nat.le_of_ble_eq_true rfl, Nat.le_of_ble_eq_true rfl⟩ hl.1 rfl rfl (Nat.le_of_ble_eq_true rfl) ⟨Nat.le_refl _, Nat.le_refl _⟩ d_Mx_turnRounds_36 ?_
      intro ov ev4 H locs hp h
      rw [hp.1]
      refine W.eq (g2 := F0 m 39 ls []) rfl ?_
      have o4 := hp.2
      have t4_8 : ev4 8 = eI G 16 (qtr 10 14 2 6 (qtr 5 9 13 1 (qtr 0 4 8 12 (rnds k f)))) := by rw [o4, va_up_self]
      have t4_6 := (show ev4 6 = ev3 6 by rw [o4, va_up_ne _ _ (by decide)]).trans t3_6
      refine lv_aload_n hx hb d_Mx_turnRounds_39 rfl (lv_at hl 1 rfl) ?_
      refine lv_bipush (v := nI (15)) hx hb d_Mx_turnRounds_40 (by decide) ?_
      refine lv_iconst (v := nI (3)) hx hb d_Mx_turnRounds_42 (by decide) ?_
      refine lv_bipush (v := nI (7)) hx hb d_Mx_turnRounds_43 (by decide) ?_
      refine lv_bipush (v := nI (11)) hx hb d_Mx_turnRounds_45 (by decide) ?_
      refine wv_V (As := [.int (nI (15)), .int (nI (3)), .int (nI (7)), .int (nI (11))]) (rest := []) (k := 4) ⟨hx, hb, hml, hown, hts⟩ h 6 (by decide) (C := "NonceBox$Mixer") t4_6 rfl (m_Mx_quarter l G A ad ev4 15 3 7 11 (by decide) (by decide) (by decide) (by decide) (qtr 10 14 2 6 (qtr 5 9 13 1 (qtr 0 4 8 12 (rnds k f)))) t4_6 t4_8) kc_Mx_quarter kl_Mx_61 km_Mx_quarter kv_Mx_quarter ki_Mx (by decide +kernel) ⟨rfl, rfl, Nat.le_of_ble_eq_true rfl, Nat.le_of_ble_eq_true rfl⟩ hl.1 rfl rfl (Nat.le_of_ble_eq_true rfl) ⟨Nat.le_refl _, Nat.le_refl _⟩ d_Mx_turnRounds_47 ?_
      intro ov ev5 H locs hp h
      rw [hp.1]
      refine W.eq (g2 := F0 m 50 ls []) rfl ?_
      have o5 := hp.2
      have t5_8 : ev5 8 = eI G 16 (qtr 15 3 7 11 (qtr 10 14 2 6 (qtr 5 9 13 1 (qtr 0 4 8 12 (rnds k f))))) := by rw [o5, va_up_self]
      have t5_6 := (show ev5 6 = ev4 6 by rw [o5, va_up_ne _ _ (by decide)]).trans t4_6
      refine lv_aload_n hx hb d_Mx_turnRounds_50 rfl (lv_at hl 1 rfl) ?_
      refine lv_iconst (v := nI (0)) hx hb d_Mx_turnRounds_51 (by decide) ?_
      refine lv_iconst (v := nI (1)) hx hb d_Mx_turnRounds_52 (by decide) ?_
      refine lv_iconst (v := nI (2)) hx hb d_Mx_turnRounds_53 (by decide) ?_
      refine lv_iconst (v := nI (3)) hx hb d_Mx_turnRounds_54 (by decide) ?_
      refine wv_V (As := [.int (nI (0)), .int (nI (1)), .int (nI (2)), .int (nI (3))]) (rest := []) (k := 4) ⟨hx, hb, hml, hown, hts⟩ h 6 (by decide) (C := "NonceBox$Mixer") t5_6 rfl (m_Mx_quarter l G A ad ev5 0 1 2 3 (by decide) (by decide) (by decide) (by decide) (qtr 15 3 7 11 (qtr 10 14 2 6 (qtr 5 9 13 1 (qtr 0 4 8 12 (rnds k f))))) t5_6 t5_8) kc_Mx_quarter kl_Mx_61 km_Mx_quarter kv_Mx_quarter ki_Mx (by decide +kernel) ⟨rfl, rfl, Nat.le_of_ble_eq_true rfl, Nat.le_of_ble_eq_true rfl⟩ hl.1 rfl rfl (Nat.le_of_ble_eq_true rfl) ⟨Nat.le_refl _, Nat.le_refl _⟩ d_Mx_turnRounds_55 ?_
      intro ov ev6 H locs hp h
      rw [hp.1]
      refine W.eq (g2 := F0 m 58 ls []) rfl ?_
      have o6 := hp.2
      have t6_8 : ev6 8 = eI G 16 (qtr 0 1 2 3 (qtr 15 3 7 11 (qtr 10 14 2 6 (qtr 5 9 13 1 (qtr 0 4 8 12 (rnds k f)))))) := by rw [o6, va_up_self]
      have t6_6 := (show ev6 6 = ev5 6 by rw [o6, va_up_ne _ _ (by decide)]).trans t5_6
      refine lv_aload_n hx hb d_Mx_turnRounds_58 rfl (lv_at hl 1 rfl) ?_
      refine lv_iconst (v := nI (5)) hx hb d_Mx_turnRounds_59 (by decide) ?_
      refine lv_bipush (v := nI (6)) hx hb d_Mx_turnRounds_60 (by decide) ?_
      refine lv_bipush (v := nI (7)) hx hb d_Mx_turnRounds_62 (by decide) ?_
      refine lv_iconst (v := nI (4)) hx hb d_Mx_turnRounds_64 (by decide) ?_
      refine wv_V (As := [.int (nI (5)), .int (nI (6)), .int (nI (7)), .int (nI (4))]) (rest := []) (k := 4) ⟨hx, hb, hml, hown, hts⟩ h 6 (by decide) (C := "NonceBox$Mixer") t6_6 rfl (m_Mx_quarter l G A ad ev6 5 6 7 4 (by decide) (by decide) (by decide) (by decide) (qtr 0 1 2 3 (qtr 15 3 7 11 (qtr 10 14 2 6 (qtr 5 9 13 1 (qtr 0 4 8 12 (rnds k f)))))) t6_6 t6_8) kc_Mx_quarter kl_Mx_61 km_Mx_quarter kv_Mx_quarter ki_Mx (by decide +kernel) ⟨rfl, rfl, Nat.le_of_ble_eq_true rfl, Nat.le_of_ble_eq_true rfl⟩ hl.1 rfl rfl (Nat.le_of_ble_eq_true rfl) ⟨Nat.le_refl _, Nat.le_refl _⟩ d_Mx_turnRounds_65 ?_
      intro ov ev7 H locs hp h
      rw [hp.1]
      refine W.eq (g2 := F0 m 68 ls []) rfl ?_
      have o7 := hp.2
      have t7_8 : ev7 8 = eI G 16 (qtr 5 6 7 4 (qtr 0 1 2 3 (qtr 15 3 7 11 (qtr 10 14 2 6 (qtr 5 9 13 1 (qtr 0 4 8 12 (rnds k f))))))) := by rw [o7, va_up_self]
      have t7_6 := (show ev7 6 = ev6 6 by rw [o7, va_up_ne _ _ (by decide)]).trans t6_6
      refine lv_aload_n hx hb d_Mx_turnRounds_68 rfl (lv_at hl 1 rfl) ?_
      refine lv_bipush (v := nI (10)) hx hb d_Mx_turnRounds_69 (by decide) ?_
      refine lv_bipush (v := nI (11)) hx hb d_Mx_turnRounds_71 (by decide) ?_
      refine lv_bipush (v := nI (8)) hx hb d_Mx_turnRounds_73 (by decide) ?_
      refine lv_bipush (v := nI (9)) hx hb d_Mx_turnRounds_75 (by decide) ?_
      refine wv_V (As := [.int (nI (10)), .int (nI (11)), .int (nI (8)), .int (nI (9))]) (rest := []) (k := 4) ⟨hx, hb, hml, hown, hts⟩ h 6 (by decide) (C := "NonceBox$Mixer") t7_6 rfl (m_Mx_quarter l G A ad ev7 10 11 8 9 (by decide) (by decide) (by decide) (by decide) (qtr 5 6 7 4 (qtr 0 1 2 3 (qtr 15 3 7 11 (qtr 10 14 2 6 (qtr 5 9 13 1 (qtr 0 4 8 12 (rnds k f))))))) t7_6 t7_8) kc_Mx_quarter kl_Mx_61 km_Mx_quarter kv_Mx_quarter ki_Mx (by decide +kernel) ⟨rfl, rfl, Nat.le_of_ble_eq_true rfl, Nat.le_of_ble_eq_true rfl⟩ hl.1 rfl rfl (Nat.le_of_ble_eq_true rfl) ⟨Nat.le_refl _, Nat.le_refl _⟩ d_Mx_turnRounds_77 ?_
      intro ov ev8 H locs hp h
      rw [hp.1]
      refine W.eq (g2 := F0 m 80 ls []) rfl ?_
      have o8 := hp.2
      have t8_8 : ev8 8 = eI G 16 (qtr 10 11 8 9 (qtr 5 6 7 4 (qtr 0 1 2 3 (qtr 15 3 7 11 (qtr 10 14 2 6 (qtr 5 9 13 1 (qtr 0 4 8 12 (rnds k f)))))))) := by rw [o8, va_up_self]
      have t8_6 := (show ev8 6 = ev7 6 by rw [o8, va_up_ne _ _ (by decide)]).trans t7_6
      refine lv_aload_n hx hb d_Mx_turnRounds_80 rfl (lv_at hl 1 rfl) ?_
      refine lv_bipush (v := nI (15)) hx hb d_Mx_turnRounds_81 (by decide) ?_
      refine lv_bipush (v := nI (12)) hx hb d_Mx_turnRounds_83 (by decide) ?_
      refine lv_bipush (v := nI (13)) hx hb d_Mx_turnRounds_85 (by decide) ?_
      refine lv_bipush (v := nI (14)) hx hb d_Mx_turnRounds_87 (by decide) ?_
      refine wv_V (As := [.int (nI (15)), .int (nI (12)), .int (nI (13)), .int (nI (14))]) (rest := []) (k := 4) ⟨hx, hb, hml, hown, hts⟩ h 6 (by decide) (C := "NonceBox$Mixer") t8_6 rfl (m_Mx_quarter l G A ad ev8 15 12 13 14 (by decide) (by decide) (by decide) (by decide) (qtr 10 11 8 9 (qtr 5 6 7 4 (qtr 0 1 2 3 (qtr 15 3 7 11 (qtr 10 14 2 6 (qtr 5 9 13 1 (qtr 0 4 8 12 (rnds k f)))))))) t8_6 t8_8) kc_Mx_quarter kl_Mx_61 km_Mx_quarter kv_Mx_quarter ki_Mx (by decide +kernel) ⟨rfl, rfl, Nat.le_of_ble_eq_true rfl, Nat.le_of_ble_eq_true rfl⟩ hl.1 rfl rfl (Nat.le_of_ble_eq_true rfl) ⟨Nat.le_refl _, Nat.le_refl _⟩ d_Mx_turnRounds_89 ?_
      intro ov ev9 H locs hp h
      rw [hp.1]
      refine W.eq (g2 := F0 m 92 ls []) rfl ?_
      have o9 := hp.2
      have t9_8 : ev9 8 = eI G 16 (qtr 15 12 13 14 (qtr 10 11 8 9 (qtr 5 6 7 4 (qtr 0 1 2 3 (qtr 15 3 7 11 (qtr 10 14 2 6 (qtr 5 9 13 1 (qtr 0 4 8 12 (rnds k f))))))))) := by rw [o9, va_up_self]
      have t9_6 := (show ev9 6 = ev8 6 by rw [o9, va_up_ne _ _ (by decide)]).trans t8_6
      refine lv_iinc (v := nI (k + 1)) (lv' := [(1, .int (nI (k + 1))), (0, .ref (ad 6))]) hx hb d_Mx_turnRounds_92 hl (k := 0) rfl (nI_add _ _) (by decide) rfl (fun ls hl => ?_)
      refine lv_goto (tgt := 2) hx hb d_Mx_turnRounds_95 (by decide) ?_
      refine ih (k + 1) (by omega) ev9 H locs ls ?_ h (lv_sub hl [0, 1] rfl)
      rw [o9, o8, o7, o6, o5, o4, o3, o2, o1, va_up2, va_up2, va_up2, va_up2, va_up2, va_up2, va_up2, va_up2]
      rfl
  exact loop1 10 0 rfl ev s.heap [] ls (va_upi _ _ h8).symm h (lv_sub hl [0, 1] rfl)
theorem d_Mx_layOut_0 : decode c_Mx_layOut 0 = .ok (.aload_n 0, 1) := by decide +kernel
theorem d_Mx_layOut_1 : decode c_Mx_layOut 1 = .ok (.getfield 11, 3) := by decide +kernel
theorem d_Mx_layOut_4 : decode c_Mx_layOut 4 = .ok (.iconst 0, 1) := by decide +kernel
theorem d_Mx_layOut_5 : decode c_Mx_layOut 5 = .ok (.ldc 53, 2) := by decide +kernel
theorem d_Mx_layOut_7 : decode c_Mx_layOut 7 = .ok (.iastore, 1) := by decide +kernel
theorem d_Mx_layOut_8 : decode c_Mx_layOut 8 = .ok (.aload_n 0, 1) := by decide +kernel
theorem d_Mx_layOut_9 : decode c_Mx_layOut 9 = .ok (.getfield 11, 3) := by decide +kernel
theorem d_Mx_layOut_12 : decode c_Mx_layOut 12 = .ok (.iconst 5, 1) := by decide +kernel
theorem d_Mx_layOut_13 : decode c_Mx_layOut 13 = .ok (.ldc 54, 2) := by decide +kernel
theorem d_Mx_layOut_15 : decode c_Mx_layOut 15 = .ok (.iastore, 1) := by decide +kernel
theorem d_Mx_layOut_16 : decode c_Mx_layOut 16 = .ok (.aload_n 0, 1) := by decide +kernel
theorem d_Mx_layOut_17 : decode c_Mx_layOut 17 = .ok (.getfield 11, 3) := by decide +kernel
theorem d_Mx_layOut_20 : decode c_Mx_layOut 20 = .ok (.bipush 10, 2) := by decide +kernel
theorem d_Mx_layOut_22 : decode c_Mx_layOut 22 = .ok (.ldc 55, 2) := by decide +kernel
theorem d_Mx_layOut_24 : decode c_Mx_layOut 24 = .ok (.iastore, 1) := by decide +kernel
theorem d_Mx_layOut_25 : decode c_Mx_layOut 25 = .ok (.aload_n 0, 1) := by decide +kernel
theorem d_Mx_layOut_26 : decode c_Mx_layOut 26 = .ok (.getfield 11, 3) := by decide +kernel
theorem d_Mx_layOut_29 : decode c_Mx_layOut 29 = .ok (.bipush 15, 2) := by decide +kernel
theorem d_Mx_layOut_31 : decode c_Mx_layOut 31 = .ok (.ldc 56, 2) := by decide +kernel
theorem d_Mx_layOut_33 : decode c_Mx_layOut 33 = .ok (.iastore, 1) := by decide +kernel
theorem d_Mx_layOut_34 : decode c_Mx_layOut 34 = .ok (.iconst 0, 1) := by decide +kernel
theorem d_Mx_layOut_35 : decode c_Mx_layOut 35 = .ok (.istore_n 3, 1) := by decide +kernel
theorem d_Mx_layOut_36 : decode c_Mx_layOut 36 = .ok (.iload_n 3, 1) := by decide +kernel
theorem d_Mx_layOut_37 : decode c_Mx_layOut 37 = .ok (.iconst 4, 1) := by decide +kernel
theorem d_Mx_layOut_38 : decode c_Mx_layOut 38 = .ok (.if_icmp .ge 59, 3) := by decide +kernel
theorem d_Mx_layOut_41 : decode c_Mx_layOut 41 = .ok (.aload_n 0, 1) := by decide +kernel
theorem d_Mx_layOut_42 : decode c_Mx_layOut 42 = .ok (.getfield 11, 3) := by decide +kernel
theorem d_Mx_layOut_45 : decode c_Mx_layOut 45 = .ok (.iconst 1, 1) := by decide +kernel
theorem d_Mx_layOut_46 : decode c_Mx_layOut 46 = .ok (.iload_n 3, 1) := by decide +kernel
theorem d_Mx_layOut_47 : decode c_Mx_layOut 47 = .ok (.iadd, 1) := by decide +kernel
theorem d_Mx_layOut_48 : decode c_Mx_layOut 48 = .ok (.aload_n 1, 1) := by decide +kernel
theorem d_Mx_layOut_49 : decode c_Mx_layOut 49 = .ok (.iconst 4, 1) := by decide +kernel
theorem d_Mx_layOut_50 : decode c_Mx_layOut 50 = .ok (.iload_n 3, 1) := by decide +kernel
theorem d_Mx_layOut_51 : decode c_Mx_layOut 51 = .ok (.imul, 1) := by decide +kernel
theorem d_Mx_layOut_52 : decode c_Mx_layOut 52 = .ok (.invokestatic 57, 3) := by decide +kernel
theorem d_Mx_layOut_55 : decode c_Mx_layOut 55 = .ok (.iastore, 1) := by decide +kernel
theorem d_Mx_layOut_56 : decode c_Mx_layOut 56 = .ok (.aload_n 0, 1) := by decide +kernel
theorem d_Mx_layOut_57 : decode c_Mx_layOut 57 = .ok (.getfield 11, 3) := by decide +kernel
theorem d_Mx_layOut_60 : decode c_Mx_layOut 60 = .ok (.bipush 6, 2) := by decide +kernel
theorem d_Mx_layOut_62 : decode c_Mx_layOut 62 = .ok (.iload_n 3, 1) := by decide +kernel
theorem d_Mx_layOut_63 : decode c_Mx_layOut 63 = .ok (.iadd, 1) := by decide +kernel
theorem d_Mx_layOut_64 : decode c_Mx_layOut 64 = .ok (.aload_n 2, 1) := by decide +kernel
theorem d_Mx_layOut_65 : decode c_Mx_layOut 65 = .ok (.iconst 4, 1) := by decide +kernel
theorem d_Mx_layOut_66 : decode c_Mx_layOut 66 = .ok (.iload_n 3, 1) := by decide +kernel
theorem d_Mx_layOut_67 : decode c_Mx_layOut 67 = .ok (.imul, 1) := by decide +kernel
theorem d_Mx_layOut_68 : decode c_Mx_layOut 68 = .ok (.invokestatic 57, 3) := by decide +kernel
theorem d_Mx_layOut_71 : decode c_Mx_layOut 71 = .ok (.iastore, 1) := by decide +kernel
theorem d_Mx_layOut_72 : decode c_Mx_layOut 72 = .ok (.aload_n 0, 1) := by decide +kernel
theorem d_Mx_layOut_73 : decode c_Mx_layOut 73 = .ok (.getfield 11, 3) := by decide +kernel
theorem d_Mx_layOut_76 : decode c_Mx_layOut 76 = .ok (.bipush 11, 2) := by decide +kernel
theorem d_Mx_layOut_78 : decode c_Mx_layOut 78 = .ok (.iload_n 3, 1) := by decide +kernel
theorem d_Mx_layOut_79 : decode c_Mx_layOut 79 = .ok (.iadd, 1) := by decide +kernel
theorem d_Mx_layOut_80 : decode c_Mx_layOut 80 = .ok (.aload_n 1, 1) := by decide +kernel
theorem d_Mx_layOut_81 : decode c_Mx_layOut 81 = .ok (.bipush 16, 2) := by decide +kernel
theorem d_Mx_layOut_83 : decode c_Mx_layOut 83 = .ok (.iconst 4, 1) := by decide +kernel
theorem d_Mx_layOut_84 : decode c_Mx_layOut 84 = .ok (.iload_n 3, 1) := by decide +kernel
theorem d_Mx_layOut_85 : decode c_Mx_layOut 85 = .ok (.imul, 1) := by decide +kernel
theorem d_Mx_layOut_86 : decode c_Mx_layOut 86 = .ok (.iadd, 1) := by decide +kernel
theorem d_Mx_layOut_87 : decode c_Mx_layOut 87 = .ok (.invokestatic 57, 3) := by decide +kernel
theorem d_Mx_layOut_90 : decode c_Mx_layOut 90 = .ok (.iastore, 1) := by decide +kernel
theorem d_Mx_layOut_91 : decode c_Mx_layOut 91 = .ok (.iinc 3 1, 3) := by decide +kernel
theorem d_Mx_layOut_94 : decode c_Mx_layOut 94 = .ok (.goto (-58), 3) := by decide +kernel
theorem d_Mx_layOut_97 : decode c_Mx_layOut 97 = .ok (.aload_n 0, 1) := by decide +kernel
theorem d_Mx_layOut_98 : decode c_Mx_layOut 98 = .ok (.getfield 11, 3) := by decide +kernel
theorem d_Mx_layOut_101 : decode c_Mx_layOut 101 = .ok (.iconst 0, 1) := by decide +kernel
theorem d_Mx_layOut_102 : decode c_Mx_layOut 102 = .ok (.aload_n 0, 1) := by decide +kernel
theorem d_Mx_layOut_103 : decode c_Mx_layOut 103 = .ok (.getfield 15, 3) := by decide +kernel
theorem d_Mx_layOut_106 : decode c_Mx_layOut 106 = .ok (.iconst 0, 1) := by decide +kernel
theorem d_Mx_layOut_107 : decode c_Mx_layOut 107 = .ok (.bipush 16, 2) := by decide +kernel
theorem d_Mx_layOut_109 : decode c_Mx_layOut 109 = .ok (.invokestatic 43, 3) := by decide +kernel
theorem d_Mx_layOut_112 : decode c_Mx_layOut 112 = .ok (.return_, 1) := by decide +kernel
set_option maxRecDepth 100000 in
set_option maxHeartbeats 4000000 in
/-- LAID OUT -/
theorem m_Mx_layOut (l : Launch) (G : wG) (A : Nat → Prop) (ad : Nat → Nat) (ev : Nat → va_E) (qk qx Nk Nx : Nat) (K X : Nat → Nat) (f g : Nat → Int32) (hqk : qk < 52) (hqx : qx < 52) (h6 : ev 6 = eO 2 [.ref (ad 7), .ref (ad 8), .ref (ad 9), .ref (ad 10), .ref (ad 11)]) (h7 : ev 7 = eI G 16 f) (h8 : ev 8 = eI G 16 g) (hk : ev qk = eB G Nk (bs K)) (hx' : ev qx = eB G Nx (bs X)) (k7 : qk ≠ 7) (x7 : qx ≠ 7) (hK : ∀ j, K j < 256) (hX : ∀ j, X j < 256) (nk : 32 ≤ Nk) (nx : 16 ≤ Nx) (nk2 : Nk < 2 ^ 31) (nx2 : Nx < 2 ^ 31) : wM l y_Mx_layOut w_Mx_layOut ({ frames := 3, cells := 0, slots := 0, locals := 100 }) G A 52 ad ev [.ref (ad 6), .ref (ad qk), .ref (ad qx)] (fun ov ev' => ov = none ∧ ev' = va_up (va_up ev 7 (eI G 16 (LAY K X))) 8 (eI G 16 (LAY K X))) := by
  refine wv_ofW (cc := c_Mx_layOut) (maxL := 4) (ret := none) (by decide) rfl (Nat.le_of_ble_eq_true rfl) ?_
  intro p e s m below meth c ls hx hb hr hml hts hown hlocks hini h hl
  have hl : lv_has ls 4 [(0, .ref (ad 6)), (1, .ref (ad qk)), (2, .ref (ad qx))] := hl
  refine lv_aload_n hx hb d_Mx_layOut_0 rfl (lv_at hl 0 rfl) ?_
  refine wv_getf hx hb h 6 (by decide) (fs := [.ref (ad 7), .ref (ad 8), .ref (ad 9), .ref (ad 10), .ref (ad 11)]) h6 hts (fun w hw => List.mem_cons_of_mem _ (fW_Mx w hw)) hown (ci := 2) (C := "NonceBox$Mixer") (T := fT_Mx) (N := 5) rfl 0 (by decide) (hts _ (List.mem_cons_of_mem _ kf_Mx_11)) rfl (v := .ref (ad 7)) rfl d_Mx_layOut_1 ?_
  refine lv_iconst (v := nI (0)) hx hb d_Mx_layOut_4 (by decide) ?_
  refine lv_ldc (v := 1634760805) hx hb hown (hts _ (List.mem_cons_of_mem _ ko_Mx_53)) d_Mx_layOut_5 ?_
  refine wv_iast hx hb h 7 (by decide) (f := f) h7 (k := 0) rfl (by decide) (by decide) d_Mx_layOut_7 (fun H locs h => ?_)
  obtain ⟨ev1, o1⟩ : ∃ z, z = va_up ev 7 (eI G 16 (va_up f 0 1634760805)) := ⟨_, rfl⟩
  rw [← o1] at h
  have t1_7 : ev1 7 = eI G 16 (va_up f 0 1634760805) := by rw [o1, va_up_self]
  have t1_8 := (show ev1 8 = ev 8 by rw [o1, va_up_ne _ _ (by decide)]).trans h8
  have t1_qk := (show ev1 qk = ev qk by rw [o1, va_up_ne _ _ k7]).trans hk
  have t1_qx := (show ev1 qx = ev qx by rw [o1, va_up_ne _ _ x7]).trans hx'
  have t1_6 := (show ev1 6 = ev 6 by rw [o1, va_up_ne _ _ (by decide)]).trans h6
  refine lv_aload_n hx hb d_Mx_layOut_8 rfl (lv_at hl 0 rfl) ?_
  refine wv_getf hx hb h 6 (by decide) (fs := [.ref (ad 7), .ref (ad 8), .ref (ad 9), .ref (ad 10), .ref (ad 11)]) t1_6 hts (fun w hw => List.mem_cons_of_mem _ (fW_Mx w hw)) hown (ci := 2) (C := "NonceBox$Mixer") (T := fT_Mx) (N := 5) rfl 0 (by decide) (hts _ (List.mem_cons_of_mem _ kf_Mx_11)) rfl (v := .ref (ad 7)) rfl d_Mx_layOut_9 ?_
  refine lv_iconst (v := nI (5)) hx hb d_Mx_layOut_12 (by decide) ?_
  refine lv_ldc (v := 857760878) hx hb hown (hts _ (List.mem_cons_of_mem _ ko_Mx_54)) d_Mx_layOut_13 ?_
  refine wv_iast hx hb h 7 (by decide) (f := (va_up f 0 1634760805)) t1_7 (k := 5) rfl (by decide) (by decide) d_Mx_layOut_15 (fun H locs h => ?_)
  obtain ⟨ev2, o2⟩ : ∃ z, z = va_up ev1 7 (eI G 16 (va_up ((va_up f 0 1634760805)) 5 857760878)) := ⟨_, rfl⟩
  rw [← o2] at h
  have t2_7 : ev2 7 = eI G 16 (va_up ((va_up f 0 1634760805)) 5 857760878) := by rw [o2, va_up_self]
  have t2_8 := (show ev2 8 = ev1 8 by rw [o2, va_up_ne _ _ (by decide)]).trans t1_8
  have t2_qk := (show ev2 qk = ev1 qk by rw [o2, va_up_ne _ _ k7]).trans t1_qk
  have t2_qx := (show ev2 qx = ev1 qx by rw [o2, va_up_ne _ _ x7]).trans t1_qx
  have t2_6 := (show ev2 6 = ev1 6 by rw [o2, va_up_ne _ _ (by decide)]).trans t1_6
  refine lv_aload_n hx hb d_Mx_layOut_16 rfl (lv_at hl 0 rfl) ?_
  refine wv_getf hx hb h 6 (by decide) (fs := [.ref (ad 7), .ref (ad 8), .ref (ad 9), .ref (ad 10), .ref (ad 11)]) t2_6 hts (fun w hw => List.mem_cons_of_mem _ (fW_Mx w hw)) hown (ci := 2) (C := "NonceBox$Mixer") (T := fT_Mx) (N := 5) rfl 0 (by decide) (hts _ (List.mem_cons_of_mem _ kf_Mx_11)) rfl (v := .ref (ad 7)) rfl d_Mx_layOut_17 ?_
  refine lv_bipush (v := nI (10)) hx hb d_Mx_layOut_20 (by decide) ?_
  refine lv_ldc (v := 2036477234) hx hb hown (hts _ (List.mem_cons_of_mem _ ko_Mx_55)) d_Mx_layOut_22 ?_
  refine wv_iast hx hb h 7 (by decide) (f := (va_up ((va_up f 0 1634760805)) 5 857760878)) t2_7 (k := 10) rfl (by decide) (by decide) d_Mx_layOut_24 (fun H locs h => ?_)
  obtain ⟨ev3, o3⟩ : ∃ z, z = va_up ev2 7 (eI G 16 (va_up ((va_up ((va_up f 0 1634760805)) 5 857760878)) 10 2036477234)) := ⟨_, rfl⟩
  rw [← o3] at h
  have t3_7 : ev3 7 = eI G 16 (va_up ((va_up ((va_up f 0 1634760805)) 5 857760878)) 10 2036477234) := by rw [o3, va_up_self]
  have t3_8 := (show ev3 8 = ev2 8 by rw [o3, va_up_ne _ _ (by decide)]).trans t2_8
  have t3_qk := (show ev3 qk = ev2 qk by rw [o3, va_up_ne _ _ k7]).trans t2_qk
  have t3_qx := (show ev3 qx = ev2 qx by rw [o3, va_up_ne _ _ x7]).trans t2_qx
  have t3_6 := (show ev3 6 = ev2 6 by rw [o3, va_up_ne _ _ (by decide)]).trans t2_6
  refine lv_aload_n hx hb d_Mx_layOut_25 rfl (lv_at hl 0 rfl) ?_
  refine wv_getf hx hb h 6 (by decide) (fs := [.ref (ad 7), .ref (ad 8), .ref (ad 9), .ref (ad 10), .ref (ad 11)]) t3_6 hts (fun w hw => List.mem_cons_of_mem _ (fW_Mx w hw)) hown (ci := 2) (C := "NonceBox$Mixer") (T := fT_Mx) (N := 5) rfl 0 (by decide) (hts _ (List.mem_cons_of_mem _ kf_Mx_11)) rfl (v := .ref (ad 7)) rfl d_Mx_layOut_26 ?_
  refine lv_bipush (v := nI (15)) hx hb d_Mx_layOut_29 (by decide) ?_
  refine lv_ldc (v := 1797285236) hx hb hown (hts _ (List.mem_cons_of_mem _ ko_Mx_56)) d_Mx_layOut_31 ?_
  refine wv_iast hx hb h 7 (by decide) (f := (va_up ((va_up ((va_up f 0 1634760805)) 5 857760878)) 10 2036477234)) t3_7 (k := 15) rfl (by decide) (by decide) d_Mx_layOut_33 (fun H locs h => ?_)
  obtain ⟨ev4, o4⟩ : ∃ z, z = va_up ev3 7 (eI G 16 (va_up ((va_up ((va_up ((va_up f 0 1634760805)) 5 857760878)) 10 2036477234)) 15 1797285236)) := ⟨_, rfl⟩
  rw [← o4] at h
  have t4_7 : ev4 7 = eI G 16 (va_up ((va_up ((va_up ((va_up f 0 1634760805)) 5 857760878)) 10 2036477234)) 15 1797285236) := by rw [o4, va_up_self]
  have t4_8 := (show ev4 8 = ev3 8 by rw [o4, va_up_ne _ _ (by decide)]).trans t3_8
  have t4_qk := (show ev4 qk = ev3 qk by rw [o4, va_up_ne _ _ k7]).trans t3_qk
  have t4_qx := (show ev4 qx = ev3 qx by rw [o4, va_up_ne _ _ x7]).trans t3_qx
  have t4_6 := (show ev4 6 = ev3 6 by rw [o4, va_up_ne _ _ (by decide)]).trans t3_6
  refine lv_iconst (v := nI (0)) hx hb d_Mx_layOut_34 (by decide) ?_
  refine lv_istore_n (lv' := [(3, .int (nI (0))), (0, .ref (ad 6)), (1, .ref (ad qk)), (2, .ref (ad qx))]) hx hb d_Mx_layOut_35 rfl hl (by decide) rfl (fun ls hl => ?_)
  obtain ⟨f0, ef0⟩ : ∃ z, z = (va_up (va_up (va_up (va_up f 0 1634760805) 5 857760878) 10 2036477234) 15 1797285236) := ⟨_, rfl⟩
  have o4' : ev4 = va_up ev 7 (eI G 16 f0) := by rw [o4, o3, o2, o1, va_up2, va_up2, va_up2, ef0]
  have t4' : ev4 7 = eI G 16 f0 := by rw [o4', va_up_self]
  have loop5 : ∀ (d k : Nat), k + d = 4 →  ∀ (ev5 : Nat → va_E) (H : Heap) (locs : List Loc) (ls : Array Slot), ev5 = (va_up ev4 7 (eI G 16 (layL K X f0 k))) → wT G A 52 ad ev5 s H locs → lv_has ls 4 [(3, .int (nI (k))), (0, .ref (ad 6)), (1, .ref (ad qk)), (2, .ref (ad qx))] → W p l e ({ frames := 3, cells := 0, slots := 0, locals := 100 }) s m ([.ref (ad 6), .ref (ad qk), .ref (ad qx)] : List Value).toArray below meth c H locs 0 0 (MQ below (wQc G A 52 ad (fun ov ev' => ov = none ∧ ev' = va_up (va_up ev 7 (eI G 16 (LAY K X))) 8 (eI G 16 (LAY K X)))) ([.ref (ad 6), .ref (ad qk), .ref (ad qx)] : List Value).toArray s 0 0 A) (F0 m 36 ls []) := by
    intro d
    induction d with
    | zero =>
      intro k hk_k  ev5 H locs ls  o5 h hl
      have t5_7 : ev5 7 = eI G 16 (layL K X f0 k) := by rw [o5, va_up_self]
      have t5_8 := (show ev5 8 = ev4 8 by rw [o5, va_up_ne _ _ (by decide)]).trans t4_8
      have t5_qk := (show ev5 qk = ev4 qk by rw [o5, va_up_ne _ _ k7]).trans t4_qk
      have t5_qx := (show ev5 qx = ev4 qx by rw [o5, va_up_ne _ _ x7]).trans t4_qx
      have t5_6 := (show ev5 6 = ev4 6 by rw [o5, va_up_ne _ _ (by decide)]).trans t4_6
      refine lv_iload_n hx hb d_Mx_layOut_36 rfl (lv_at hl 0 rfl) ?_
      refine lv_iconst (v := nI (4)) hx hb d_Mx_layOut_37 (by decide) ?_
      refine lv_icmp_ge (tgt := 97) hx hb d_Mx_layOut_38 (by decide) (fun _ => ?_) (fun hc => absurd ((nI_leI (by omega) (by omega)).mpr (by omega)) hc)
      refine lv_aload_n hx hb d_Mx_layOut_97 rfl (lv_at hl 1 rfl) ?_
      refine wv_getf hx hb h 6 (by decide) (fs := [.ref (ad 7), .ref (ad 8), .ref (ad 9), .ref (ad 10), .ref (ad 11)]) t5_6 hts (fun w hw => List.mem_cons_of_mem _ (fW_Mx w hw)) hown (ci := 2) (C := "NonceBox$Mixer") (T := fT_Mx) (N := 5) rfl 0 (by decide) (hts _ (List.mem_cons_of_mem _ kf_Mx_11)) rfl (v := .ref (ad 7)) rfl d_Mx_layOut_98 ?_
      refine lv_iconst (v := nI (0)) hx hb d_Mx_layOut_101 (by decide) ?_
      refine lv_aload_n hx hb d_Mx_layOut_102 rfl (lv_at hl 1 rfl) ?_
      refine wv_getf hx hb h 6 (by decide) (fs := [.ref (ad 7), .ref (ad 8), .ref (ad 9), .ref (ad 10), .ref (ad 11)]) t5_6 hts (fun w hw => List.mem_cons_of_mem _ (fW_Mx w hw)) hown (ci := 2) (C := "NonceBox$Mixer") (T := fT_Mx) (N := 5) rfl 1 (by decide) (hts _ (List.mem_cons_of_mem _ kf_Mx_15)) rfl (v := .ref (ad 8)) rfl d_Mx_layOut_103 ?_
      refine lv_iconst (v := nI (0)) hx hb d_Mx_layOut_106 (by decide) ?_
      refine lv_bipush (v := nI (16)) hx hb d_Mx_layOut_107 (by decide) ?_
      refine wv_copyi hx hb (hml.trans hl.1.symm) h hown (hts _ (List.mem_cons_of_mem _ kl_Mx_43)) (hts _ (List.mem_cons_of_mem _ kn_Sy_arraycopy)) (hts _ (List.mem_cons_of_mem _ ks_Sy_arraycopy)) (hts _ (List.mem_cons_of_mem _ ki_Sy)) 7 8 (by decide) (by decide) (f := (layL K X f0 k)) (g := g) t5_7 t5_8 (a := 0) (b := 0) (d := 16) rfl rfl rfl (by omega) (by omega) (by decide) (by decide) (by decide) (by decide) d_Mx_layOut_109 (fun H locs h => ?_)
      obtain ⟨ev6, o6⟩ : ∃ z, z = va_up ev5 8 (eI G 16 (va_cpy (layL K X f0 k) g 0 0 16)) := ⟨_, rfl⟩
      rw [← o6] at h
      have t6_8 : ev6 8 = eI G 16 (va_cpy (layL K X f0 k) g 0 0 16) := by rw [o6, va_up_self]
      have t6_7 := (show ev6 7 = ev5 7 by rw [o6, va_up_ne _ _ (by decide)]).trans t5_7
      have t6_6 := (show ev6 6 = ev5 6 by rw [o6, va_up_ne _ _ (by decide)]).trans t5_6
      have h := wT_eqI (g := (LAY K X)) h 8 (by decide) t6_8 (fun j hj => by rw [pk_cpy_in (Nat.zero_le _) (by omega), Nat.zero_add, Nat.sub_zero, show k = 4 by omega, ef0]; exact layL_4 K X f j hj)
      obtain ⟨ev7, o7⟩ : ∃ z, z = va_up ev6 8 (eI G 16 (LAY K X)) := ⟨_, rfl⟩
      rw [← o7] at h
      have t7_8 : ev7 8 = eI G 16 (LAY K X) := by rw [o7, va_up_self]
      have t7_7 := (show ev7 7 = ev6 7 by rw [o7, va_up_ne _ _ (by decide)]).trans t6_7
      have t7_6 := (show ev7 6 = ev6 6 by rw [o7, va_up_ne _ _ (by decide)]).trans t6_6
      have h := wT_eqI (g := (LAY K X)) h 7 (by decide) t7_7 (fun j hj => by rw [show k = 4 by omega, ef0]; exact layL_4 K X f j hj)
      obtain ⟨ev8, o8⟩ : ∃ z, z = va_up ev7 7 (eI G 16 (LAY K X)) := ⟨_, rfl⟩
      rw [← o8] at h
      have t8_7 : ev8 7 = eI G 16 (LAY K X) := by rw [o8, va_up_self]
      have t8_8 := (show ev8 8 = ev7 8 by rw [o8, va_up_ne _ _ (by decide)]).trans t7_8
      have t8_6 := (show ev8 6 = ev7 6 by rw [o8, va_up_ne _ _ (by decide)]).trans t7_6
      refine wv_vret hx hb hr hlocks h d_Mx_layOut_112 ⟨rfl, ?_⟩
      rw [o8, o7, o6, va_up2, o5, va_upc _ _ _ (show (8 : Nat) ≠ 7 by decide), va_up2, o4', va_up2]
    | succ d ih =>
      intro k hk_k  ev5 H locs ls  o5 h hl
      have t5_7 : ev5 7 = eI G 16 (layL K X f0 k) := by rw [o5, va_up_self]
      have t5_8 := (show ev5 8 = ev4 8 by rw [o5, va_up_ne _ _ (by decide)]).trans t4_8
      have t5_qk := (show ev5 qk = ev4 qk by rw [o5, va_up_ne _ _ k7]).trans t4_qk
      have t5_qx := (show ev5 qx = ev4 qx by rw [o5, va_up_ne _ _ x7]).trans t4_qx
      have t5_6 := (show ev5 6 = ev4 6 by rw [o5, va_up_ne _ _ (by decide)]).trans t4_6
      refine lv_iload_n hx hb d_Mx_layOut_36 rfl (lv_at hl 0 rfl) ?_
      refine lv_iconst (v := nI (4)) hx hb d_Mx_layOut_37 (by decide) ?_
      refine lv_icmp_ge (tgt := 97) hx hb d_Mx_layOut_38 (by decide) (fun hc => absurd ((nI_leI (by omega) (by omega)).mp hc) (by omega)) (fun _ => ?_)
      refine lv_aload_n hx hb d_Mx_layOut_41 rfl (lv_at hl 1 rfl) ?_
      refine wv_getf hx hb h 6 (by decide) (fs := [.ref (ad 7), .ref (ad 8), .ref (ad 9), .ref (ad 10), .ref (ad 11)]) t5_6 hts (fun w hw => List.mem_cons_of_mem _ (fW_Mx w hw)) hown (ci := 2) (C := "NonceBox$Mixer") (T := fT_Mx) (N := 5) rfl 0 (by decide) (hts _ (List.mem_cons_of_mem _ kf_Mx_11)) rfl (v := .ref (ad 7)) rfl d_Mx_layOut_42 ?_
      refine lv_iconst (v := nI (1)) hx hb d_Mx_layOut_45 (by decide) ?_
      refine lv_iload_n hx hb d_Mx_layOut_46 rfl (lv_at hl 0 rfl) ?_
      refine lv_iadd hx hb d_Mx_layOut_47 ?_
      refine wv_top (nI_add _ _) ?_
      refine lv_aload_n hx hb d_Mx_layOut_48 rfl (lv_at hl 2 rfl) ?_
      refine lv_iconst (v := nI (4)) hx hb d_Mx_layOut_49 (by decide) ?_
      refine lv_iload_n hx hb d_Mx_layOut_50 rfl (lv_at hl 0 rfl) ?_
      refine lv_imul hx hb d_Mx_layOut_51 ?_
      refine wv_top (pk_mul _ _) ?_
      refine wv_Sx (As := [.ref (ad qk), .int (nI (4 * k))]) (rest := [.int (nI (1 + k)), .ref (ad 7)]) (k := 2) ⟨hx, hb, hml, hown, hts⟩ h (m_Mx_readWord l G A ad ev5 qk Nk (4 * k) K hqk t5_qk hK (by omega) nk2) kc_Mx_readWord kl_Mx_57 ks_Mx_readWord ki_Mx (by decide +kernel) ⟨rfl, rfl, Nat.le_of_ble_eq_true rfl, Nat.le_of_ble_eq_true rfl⟩ hl.1 rfl rfl (Nat.le_of_ble_eq_true rfl) ⟨Nat.le_refl _, Nat.le_refl _⟩ d_Mx_layOut_52 ?_
      intro ov ev6 H locs hp h
      rw [hp.1]
      refine W.eq (g2 := F0 m 55 ls [.int (wordN K (4 * k)), .int (nI (1 + k)), .ref (ad 7)]) rfl ?_
      rw [hp.2] at h
      refine wv_iast hx hb h 7 (by decide) (f := (layL K X f0 k)) t5_7 (k := 1 + k) rfl (by omega) (by decide) d_Mx_layOut_55 (fun H locs h => ?_)
      obtain ⟨ev6, o6⟩ : ∃ z, z = va_up ev5 7 (eI G 16 (va_up ((layL K X f0 k)) (1 + k) (wordN K (4 * k)))) := ⟨_, rfl⟩
      rw [← o6] at h
      have t6_7 : ev6 7 = eI G 16 (va_up ((layL K X f0 k)) (1 + k) (wordN K (4 * k))) := by rw [o6, va_up_self]
      have t6_8 := (show ev6 8 = ev5 8 by rw [o6, va_up_ne _ _ (by decide)]).trans t5_8
      have t6_qk := (show ev6 qk = ev5 qk by rw [o6, va_up_ne _ _ k7]).trans t5_qk
      have t6_qx := (show ev6 qx = ev5 qx by rw [o6, va_up_ne _ _ x7]).trans t5_qx
      have t6_6 := (show ev6 6 = ev5 6 by rw [o6, va_up_ne _ _ (by decide)]).trans t5_6
      refine lv_aload_n hx hb d_Mx_layOut_56 rfl (lv_at hl 1 rfl) ?_
      refine wv_getf hx hb h 6 (by decide) (fs := [.ref (ad 7), .ref (ad 8), .ref (ad 9), .ref (ad 10), .ref (ad 11)]) t6_6 hts (fun w hw => List.mem_cons_of_mem _ (fW_Mx w hw)) hown (ci := 2) (C := "NonceBox$Mixer") (T := fT_Mx) (N := 5) rfl 0 (by decide) (hts _ (List.mem_cons_of_mem _ kf_Mx_11)) rfl (v := .ref (ad 7)) rfl d_Mx_layOut_57 ?_
      refine lv_bipush (v := nI (6)) hx hb d_Mx_layOut_60 (by decide) ?_
      refine lv_iload_n hx hb d_Mx_layOut_62 rfl (lv_at hl 0 rfl) ?_
      refine lv_iadd hx hb d_Mx_layOut_63 ?_
      refine wv_top (nI_add _ _) ?_
      refine lv_aload_n hx hb d_Mx_layOut_64 rfl (lv_at hl 3 rfl) ?_
      refine lv_iconst (v := nI (4)) hx hb d_Mx_layOut_65 (by decide) ?_
      refine lv_iload_n hx hb d_Mx_layOut_66 rfl (lv_at hl 0 rfl) ?_
      refine lv_imul hx hb d_Mx_layOut_67 ?_
      refine wv_top (pk_mul _ _) ?_
      refine wv_Sx (As := [.ref (ad qx), .int (nI (4 * k))]) (rest := [.int (nI (6 + k)), .ref (ad 7)]) (k := 2) ⟨hx, hb, hml, hown, hts⟩ h (m_Mx_readWord l G A ad ev6 qx Nx (4 * k) X hqx t6_qx hX (by omega) nx2) kc_Mx_readWord kl_Mx_57 ks_Mx_readWord ki_Mx (by decide +kernel) ⟨rfl, rfl, Nat.le_of_ble_eq_true rfl, Nat.le_of_ble_eq_true rfl⟩ hl.1 rfl rfl (Nat.le_of_ble_eq_true rfl) ⟨Nat.le_refl _, Nat.le_refl _⟩ d_Mx_layOut_68 ?_
      intro ov ev7 H locs hp h
      rw [hp.1]
      refine W.eq (g2 := F0 m 71 ls [.int (wordN X (4 * k)), .int (nI (6 + k)), .ref (ad 7)]) rfl ?_
      rw [hp.2] at h
      refine wv_iast hx hb h 7 (by decide) (f := (va_up ((layL K X f0 k)) (1 + k) (wordN K (4 * k)))) t6_7 (k := 6 + k) rfl (by omega) (by decide) d_Mx_layOut_71 (fun H locs h => ?_)
      obtain ⟨ev7, o7⟩ : ∃ z, z = va_up ev6 7 (eI G 16 (va_up ((va_up ((layL K X f0 k)) (1 + k) (wordN K (4 * k)))) (6 + k) (wordN X (4 * k)))) := ⟨_, rfl⟩
      rw [← o7] at h
      have t7_7 : ev7 7 = eI G 16 (va_up ((va_up ((layL K X f0 k)) (1 + k) (wordN K (4 * k)))) (6 + k) (wordN X (4 * k))) := by rw [o7, va_up_self]
      have t7_8 := (show ev7 8 = ev6 8 by rw [o7, va_up_ne _ _ (by decide)]).trans t6_8
      have t7_qk := (show ev7 qk = ev6 qk by rw [o7, va_up_ne _ _ k7]).trans t6_qk
      have t7_qx := (show ev7 qx = ev6 qx by rw [o7, va_up_ne _ _ x7]).trans t6_qx
      have t7_6 := (show ev7 6 = ev6 6 by rw [o7, va_up_ne _ _ (by decide)]).trans t6_6
      refine lv_aload_n hx hb d_Mx_layOut_72 rfl (lv_at hl 1 rfl) ?_
      refine wv_getf hx hb h 6 (by decide) (fs := [.ref (ad 7), .ref (ad 8), .ref (ad 9), .ref (ad 10), .ref (ad 11)]) t7_6 hts (fun w hw => List.mem_cons_of_mem _ (fW_Mx w hw)) hown (ci := 2) (C := "NonceBox$Mixer") (T := fT_Mx) (N := 5) rfl 0 (by decide) (hts _ (List.mem_cons_of_mem _ kf_Mx_11)) rfl (v := .ref (ad 7)) rfl d_Mx_layOut_73 ?_
      refine lv_bipush (v := nI (11)) hx hb d_Mx_layOut_76 (by decide) ?_
      refine lv_iload_n hx hb d_Mx_layOut_78 rfl (lv_at hl 0 rfl) ?_
      refine lv_iadd hx hb d_Mx_layOut_79 ?_
      refine wv_top (nI_add _ _) ?_
      refine lv_aload_n hx hb d_Mx_layOut_80 rfl (lv_at hl 2 rfl) ?_
      refine lv_bipush (v := nI (16)) hx hb d_Mx_layOut_81 (by decide) ?_
      refine lv_iconst (v := nI (4)) hx hb d_Mx_layOut_83 (by decide) ?_
      refine lv_iload_n hx hb d_Mx_layOut_84 rfl (lv_at hl 0 rfl) ?_
      refine lv_imul hx hb d_Mx_layOut_85 ?_
      refine wv_top (pk_mul _ _) ?_
      refine lv_iadd hx hb d_Mx_layOut_86 ?_
      refine wv_top (nI_add _ _) ?_
      refine wv_Sx (As := [.ref (ad qk), .int (nI (16 + (4 * k)))]) (rest := [.int (nI (11 + k)), .ref (ad 7)]) (k := 2) ⟨hx, hb, hml, hown, hts⟩ h (m_Mx_readWord l G A ad ev7 qk Nk (16 + 4 * k) K hqk t7_qk hK (by omega) nk2) kc_Mx_readWord kl_Mx_57 ks_Mx_readWord ki_Mx (by decide +kernel) ⟨rfl, rfl, Nat.le_of_ble_eq_true rfl, Nat.le_of_ble_eq_true rfl⟩ hl.1 rfl rfl (Nat.le_of_ble_eq_true rfl) ⟨Nat.le_refl _, Nat.le_refl _⟩ d_Mx_layOut_87 ?_
      intro ov ev8 H locs hp h
      rw [hp.1]
      refine W.eq (g2 := F0 m 90 ls [.int (wordN K (16 + 4 * k)), .int (nI (11 + k)), .ref (ad 7)]) rfl ?_
      rw [hp.2] at h
      refine wv_iast hx hb h 7 (by decide) (f := (va_up ((va_up ((layL K X f0 k)) (1 + k) (wordN K (4 * k)))) (6 + k) (wordN X (4 * k)))) t7_7 (k := 11 + k) rfl (by omega) (by decide) d_Mx_layOut_90 (fun H locs h => ?_)
      obtain ⟨ev8, o8⟩ : ∃ z, z = va_up ev7 7 (eI G 16 (va_up ((va_up ((va_up ((layL K X f0 k)) (1 + k) (wordN K (4 * k)))) (6 + k) (wordN X (4 * k)))) (11 + k) (wordN K (16 + 4 * k)))) := ⟨_, rfl⟩
      rw [← o8] at h
      have t8_7 : ev8 7 = eI G 16 (va_up ((va_up ((va_up ((layL K X f0 k)) (1 + k) (wordN K (4 * k)))) (6 + k) (wordN X (4 * k)))) (11 + k) (wordN K (16 + 4 * k))) := by rw [o8, va_up_self]
      have t8_8 := (show ev8 8 = ev7 8 by rw [o8, va_up_ne _ _ (by decide)]).trans t7_8
      have t8_qk := (show ev8 qk = ev7 qk by rw [o8, va_up_ne _ _ k7]).trans t7_qk
      have t8_qx := (show ev8 qx = ev7 qx by rw [o8, va_up_ne _ _ x7]).trans t7_qx
      have t8_6 := (show ev8 6 = ev7 6 by rw [o8, va_up_ne _ _ (by decide)]).trans t7_6
      refine lv_iinc (v := nI (k + 1)) (lv' := [(3, .int (nI (k + 1))), (0, .ref (ad 6)), (1, .ref (ad qk)), (2, .ref (ad qx))]) hx hb d_Mx_layOut_91 hl (k := 0) rfl (nI_add _ _) (by decide) rfl (fun ls hl => ?_)
      refine lv_goto (tgt := 36) hx hb d_Mx_layOut_94 (by decide) ?_
      refine ih (k + 1) (by omega) ev8 H locs ls ?_ h (lv_sub hl [0, 1, 2, 3] rfl)
      rw [o8, o7, o6, o5, va_up2, va_up2, va_up2]
      rfl
  exact loop5 4 0 rfl ev4 H locs ls (va_upi _ _ t4').symm h (lv_sub hl [0, 1, 2, 3] rfl)
end
section
theorem d_Mx_mixInto_0 : decode c_Mx_mixInto 0 = .ok (.aload_n 0, 1) := by decide +kernel
theorem d_Mx_mixInto_1 : decode c_Mx_mixInto 1 = .ok (.aload_n 1, 1) := by decide +kernel
theorem d_Mx_mixInto_2 : decode c_Mx_mixInto 2 = .ok (.aload_n 2, 1) := by decide +kernel
theorem d_Mx_mixInto_3 : decode c_Mx_mixInto 3 = .ok (.invokevirtual 28, 3) := by decide +kernel
theorem d_Mx_mixInto_6 : decode c_Mx_mixInto 6 = .ok (.aload_n 0, 1) := by decide +kernel
theorem d_Mx_mixInto_7 : decode c_Mx_mixInto 7 = .ok (.invokevirtual 32, 3) := by decide +kernel
theorem d_Mx_mixInto_10 : decode c_Mx_mixInto 10 = .ok (.iconst 0, 1) := by decide +kernel
theorem d_Mx_mixInto_11 : decode c_Mx_mixInto 11 = .ok (.istore 4, 2) := by decide +kernel
theorem d_Mx_mixInto_13 : decode c_Mx_mixInto 13 = .ok (.iload 4, 2) := by decide +kernel
theorem d_Mx_mixInto_15 : decode c_Mx_mixInto 15 = .ok (.iconst 4, 1) := by decide +kernel
theorem d_Mx_mixInto_16 : decode c_Mx_mixInto 16 = .ok (.if_icmp .ge 47, 3) := by decide +kernel
theorem d_Mx_mixInto_19 : decode c_Mx_mixInto 19 = .ok (.aload_n 0, 1) := by decide +kernel
theorem d_Mx_mixInto_20 : decode c_Mx_mixInto 20 = .ok (.getfield 15, 3) := by decide +kernel
theorem d_Mx_mixInto_23 : decode c_Mx_mixInto 23 = .ok (.iconst 5, 1) := by decide +kernel
theorem d_Mx_mixInto_24 : decode c_Mx_mixInto 24 = .ok (.iload 4, 2) := by decide +kernel
theorem d_Mx_mixInto_26 : decode c_Mx_mixInto 26 = .ok (.imul, 1) := by decide +kernel
theorem d_Mx_mixInto_27 : decode c_Mx_mixInto 27 = .ok (.iaload, 1) := by decide +kernel
theorem d_Mx_mixInto_28 : decode c_Mx_mixInto 28 = .ok (.aload_n 3, 1) := by decide +kernel
theorem d_Mx_mixInto_29 : decode c_Mx_mixInto 29 = .ok (.iconst 4, 1) := by decide +kernel
theorem d_Mx_mixInto_30 : decode c_Mx_mixInto 30 = .ok (.iload 4, 2) := by decide +kernel
theorem d_Mx_mixInto_32 : decode c_Mx_mixInto 32 = .ok (.imul, 1) := by decide +kernel
theorem d_Mx_mixInto_33 : decode c_Mx_mixInto 33 = .ok (.invokestatic 35, 3) := by decide +kernel
theorem d_Mx_mixInto_36 : decode c_Mx_mixInto 36 = .ok (.aload_n 0, 1) := by decide +kernel
theorem d_Mx_mixInto_37 : decode c_Mx_mixInto 37 = .ok (.getfield 15, 3) := by decide +kernel
theorem d_Mx_mixInto_40 : decode c_Mx_mixInto 40 = .ok (.bipush 6, 2) := by decide +kernel
theorem d_Mx_mixInto_42 : decode c_Mx_mixInto 42 = .ok (.iload 4, 2) := by decide +kernel
theorem d_Mx_mixInto_44 : decode c_Mx_mixInto 44 = .ok (.iadd, 1) := by decide +kernel
theorem d_Mx_mixInto_45 : decode c_Mx_mixInto 45 = .ok (.iaload, 1) := by decide +kernel
theorem d_Mx_mixInto_46 : decode c_Mx_mixInto 46 = .ok (.aload_n 3, 1) := by decide +kernel
theorem d_Mx_mixInto_47 : decode c_Mx_mixInto 47 = .ok (.bipush 16, 2) := by decide +kernel
theorem d_Mx_mixInto_49 : decode c_Mx_mixInto 49 = .ok (.iconst 4, 1) := by decide +kernel
theorem d_Mx_mixInto_50 : decode c_Mx_mixInto 50 = .ok (.iload 4, 2) := by decide +kernel
theorem d_Mx_mixInto_52 : decode c_Mx_mixInto 52 = .ok (.imul, 1) := by decide +kernel
theorem d_Mx_mixInto_53 : decode c_Mx_mixInto 53 = .ok (.iadd, 1) := by decide +kernel
theorem d_Mx_mixInto_54 : decode c_Mx_mixInto 54 = .ok (.invokestatic 35, 3) := by decide +kernel
theorem d_Mx_mixInto_57 : decode c_Mx_mixInto 57 = .ok (.iinc 4 1, 3) := by decide +kernel
theorem d_Mx_mixInto_60 : decode c_Mx_mixInto 60 = .ok (.goto (-47), 3) := by decide +kernel
theorem d_Mx_mixInto_63 : decode c_Mx_mixInto 63 = .ok (.return_, 1) := by decide +kernel
set_option maxRecDepth 100000 in
set_option maxHeartbeats 4000000 in
/-- MIX into the row at qt -/
theorem m_Mx_mixInto (l : Launch) (G : wG) (A : Nat → Prop) (ad : Nat → Nat) (ev : Nat → va_E) (qk qx qt Nk Nx Nt : Nat) (K X T : Nat → Nat) (f g : Nat → Int32) (hqk : qk < 52) (hqx : qx < 52) (hqt : qt < 52) (h6 : ev 6 = eO 2 [.ref (ad 7), .ref (ad 8), .ref (ad 9), .ref (ad 10), .ref (ad 11)]) (h7 : ev 7 = eI G 16 f) (h8 : ev 8 = eI G 16 g) (hk : ev qk = eB G Nk (bs K)) (hx' : ev qx = eB G Nx (bs X)) (ht : ev qt = eB G Nt (bs T)) (k7 : qk ≠ 7) (x7 : qx ≠ 7) (t6 : qt ≠ 6) (t7 : qt ≠ 7) (t8 : qt ≠ 8) (hK : ∀ j, K j < 256) (hX : ∀ j, X j < 256) (nk : 32 ≤ Nk) (nx : 16 ≤ Nx) (nt : 32 ≤ Nt) (nk2 : Nk < 2 ^ 31) (nx2 : Nx < 2 ^ 31) (nt2 : Nt < 2 ^ 31) : wM l y_Mx_mixInto w_Mx_mixInto ({ frames := 9, cells := 0, slots := 0, locals := 300 }) G A 52 ad ev [.ref (ad 6), .ref (ad qk), .ref (ad qx), .ref (ad qt)] (fun ov ev' => ov = none ∧ ev' = va_up (va_up (va_up ev 7 (eI G 16 (LAY K X))) 8 (eI G 16 (RND K X))) qt (eB G Nt (bs (fil 0 32 (MIXB K X) T)))) := by
  refine wv_ofW (cc := c_Mx_mixInto) (maxL := 5) (ret := none) (by decide) rfl (Nat.le_of_ble_eq_true rfl) ?_
  intro p e s m below meth c ls hx hb hr hml hts hown hlocks hini h hl
  have hl : lv_has ls 5 [(0, .ref (ad 6)), (1, .ref (ad qk)), (2, .ref (ad qx)), (3, .ref (ad qt))] := hl
  refine lv_aload_n hx hb d_Mx_mixInto_0 rfl (lv_at hl 0 rfl) ?_
  refine lv_aload_n hx hb d_Mx_mixInto_1 rfl (lv_at hl 1 rfl) ?_
  refine lv_aload_n hx hb d_Mx_mixInto_2 rfl (lv_at hl 2 rfl) ?_
  refine wv_V (As := [.ref (ad qk), .ref (ad qx)]) (rest := []) (k := 2) ⟨hx, hb, hml, hown, hts⟩ h 6 (by decide) (C := "NonceBox$Mixer") h6 rfl (m_Mx_layOut l G A ad ev qk qx Nk Nx K X f g hqk hqx h6 h7 h8 hk hx' k7 x7 hK hX nk nx nk2 nx2) kc_Mx_layOut kl_Mx_28 km_Mx_layOut kv_Mx_layOut ki_Mx (by decide +kernel) ⟨rfl, rfl, Nat.le_of_ble_eq_true rfl, Nat.le_of_ble_eq_true rfl⟩ hl.1 rfl rfl (Nat.le_of_ble_eq_true rfl) ⟨Nat.le_refl _, Nat.le_refl _⟩ d_Mx_mixInto_3 ?_
  intro ov ev1 H locs hp h
  rw [hp.1]
  refine W.eq (g2 := F0 m 6 ls []) rfl ?_
  have o1 : ev1 = (va_up (va_up ev 7 (eI G 16 (LAY K X))) 8 (eI G 16 (LAY K X))) := hp.2
  have t1_7 : ev1 7 = eI G 16 (LAY K X) := by rw [o1, va_up_ne _ _ (by decide), va_up_self]
  have t1_8 : ev1 8 = eI G 16 (LAY K X) := by rw [o1, va_up_self]
  have t1_qt := (show ev1 qt = ev qt by rw [o1, va_up_ne _ _ t8, va_up_ne _ _ t7]).trans ht
  have t1_6 := (show ev1 6 = ev 6 by rw [o1, va_up_ne _ _ (by decide), va_up_ne _ _ (by decide)]).trans h6
  refine lv_aload_n hx hb d_Mx_mixInto_6 rfl (lv_at hl 0 rfl) ?_
  refine wv_V (As := []) (rest := []) (k := 0) ⟨hx, hb, hml, hown, hts⟩ h 6 (by decide) (C := "NonceBox$Mixer") t1_6 rfl (m_Mx_turnRounds l G A ad ev1 (LAY K X) t1_6 t1_8) kc_Mx_turnRounds kl_Mx_32 km_Mx_turnRounds kv_Mx_turnRounds ki_Mx (by decide +kernel) ⟨rfl, rfl, Nat.le_of_ble_eq_true rfl, Nat.le_of_ble_eq_true rfl⟩ hl.1 rfl rfl (Nat.le_of_ble_eq_true rfl) ⟨Nat.le_refl _, Nat.le_refl _⟩ d_Mx_mixInto_7 ?_
  intro ov ev2 H locs hp h
  rw [hp.1]
  refine W.eq (g2 := F0 m 10 ls []) rfl ?_
  have o2 : ev2 = (va_up ev1 8 (eI G 16 (RND K X))) := hp.2
  have t2_8 : ev2 8 = eI G 16 (RND K X) := by rw [o2, va_up_self]
  have t2_7 := (show ev2 7 = ev1 7 by rw [o2, va_up_ne _ _ (by decide)]).trans t1_7
  have t2_qt := (show ev2 qt = ev1 qt by rw [o2, va_up_ne _ _ t8]).trans t1_qt
  have t2_6 := (show ev2 6 = ev1 6 by rw [o2, va_up_ne _ _ (by decide)]).trans t1_6
  refine lv_iconst (v := nI (0)) hx hb d_Mx_mixInto_10 (by decide) ?_
  refine lv_istore (lv' := [(4, .int (nI (0))), (0, .ref (ad 6)), (1, .ref (ad qk)), (2, .ref (ad qx)), (3, .ref (ad qt))]) hx hb d_Mx_mixInto_11 hl (by decide) rfl (fun ls hl => ?_)
  have loop3 : ∀ (d k : Nat), k + d = 4 →  ∀ (ev3 : Nat → va_E) (H : Heap) (locs : List Loc) (ls : Array Slot), ev3 = (va_up ev2 qt (eB G Nt (bs (mixP K X T k)))) → wT G A 52 ad ev3 s H locs → lv_has ls 5 [(4, .int (nI (k))), (0, .ref (ad 6)), (1, .ref (ad qk)), (2, .ref (ad qx)), (3, .ref (ad qt))] → W p l e ({ frames := 9, cells := 0, slots := 0, locals := 300 }) s m ([.ref (ad 6), .ref (ad qk), .ref (ad qx), .ref (ad qt)] : List Value).toArray below meth c H locs 0 0 (MQ below (wQc G A 52 ad (fun ov ev' => ov = none ∧ ev' = va_up (va_up (va_up ev 7 (eI G 16 (LAY K X))) 8 (eI G 16 (RND K X))) qt (eB G Nt (bs (fil 0 32 (MIXB K X) T))))) ([.ref (ad 6), .ref (ad qk), .ref (ad qx), .ref (ad qt)] : List Value).toArray s 0 0 A) (F0 m 13 ls []) := by
    intro d
    induction d with
    | zero =>
      intro k hk_k  ev3 H locs ls  o3 h hl
      have t3_qt : ev3 qt = eB G Nt (bs (mixP K X T k)) := by rw [o3, va_up_self]
      have t3_7 := (show ev3 7 = ev2 7 by rw [o3, va_up_ne _ _ (Ne.symm t7)]).trans t2_7
      have t3_8 := (show ev3 8 = ev2 8 by rw [o3, va_up_ne _ _ (Ne.symm t8)]).trans t2_8
      have t3_6 := (show ev3 6 = ev2 6 by rw [o3, va_up_ne _ _ (Ne.symm t6)]).trans t2_6
      refine lv_iload hx hb d_Mx_mixInto_13 (lv_at hl 0 rfl) ?_
      refine lv_iconst (v := nI (4)) hx hb d_Mx_mixInto_15 (by decide) ?_
      refine lv_icmp_ge (tgt := 63) hx hb d_Mx_mixInto_16 (by decide) (fun _ => ?_) (fun hc => absurd ((nI_leI (by omega) (by omega)).mpr (by omega)) hc)
      refine wv_vret hx hb hr hlocks h d_Mx_mixInto_63 ⟨rfl, ?_⟩
      rw [o3, o2, o1, va_up2, show k = 4 by omega, mixP_4]
    | succ d ih =>
      intro k hk_k  ev3 H locs ls  o3 h hl
      have t3_qt : ev3 qt = eB G Nt (bs (mixP K X T k)) := by rw [o3, va_up_self]
      have t3_7 := (show ev3 7 = ev2 7 by rw [o3, va_up_ne _ _ (Ne.symm t7)]).trans t2_7
      have t3_8 := (show ev3 8 = ev2 8 by rw [o3, va_up_ne _ _ (Ne.symm t8)]).trans t2_8
      have t3_6 := (show ev3 6 = ev2 6 by rw [o3, va_up_ne _ _ (Ne.symm t6)]).trans t2_6
      refine lv_iload hx hb d_Mx_mixInto_13 (lv_at hl 0 rfl) ?_
      refine lv_iconst (v := nI (4)) hx hb d_Mx_mixInto_15 (by decide) ?_
      refine lv_icmp_ge (tgt := 63) hx hb d_Mx_mixInto_16 (by decide) (fun hc => absurd ((nI_leI (by omega) (by omega)).mp hc) (by omega)) (fun _ => ?_)
      refine lv_aload_n hx hb d_Mx_mixInto_19 rfl (lv_at hl 1 rfl) ?_
      refine wv_getf hx hb h 6 (by decide) (fs := [.ref (ad 7), .ref (ad 8), .ref (ad 9), .ref (ad 10), .ref (ad 11)]) t3_6 hts (fun w hw => List.mem_cons_of_mem _ (fW_Mx w hw)) hown (ci := 2) (C := "NonceBox$Mixer") (T := fT_Mx) (N := 5) rfl 1 (by decide) (hts _ (List.mem_cons_of_mem _ kf_Mx_15)) rfl (v := .ref (ad 8)) rfl d_Mx_mixInto_20 ?_
      refine lv_iconst (v := nI (5)) hx hb d_Mx_mixInto_23 (by decide) ?_
      refine lv_iload hx hb d_Mx_mixInto_24 (lv_at hl 0 rfl) ?_
      refine lv_imul hx hb d_Mx_mixInto_26 ?_
      refine wv_top (pk_mul _ _) ?_
      refine wv_iald hx hb h 8 (by decide) (f := (RND K X)) t3_8 (k := 5 * k) rfl (by omega) (by decide) d_Mx_mixInto_27 ?_
      refine lv_aload_n hx hb d_Mx_mixInto_28 rfl (lv_at hl 4 rfl) ?_
      refine lv_iconst (v := nI (4)) hx hb d_Mx_mixInto_29 (by decide) ?_
      refine lv_iload hx hb d_Mx_mixInto_30 (lv_at hl 0 rfl) ?_
      refine lv_imul hx hb d_Mx_mixInto_32 ?_
      refine wv_top (pk_mul _ _) ?_
      refine wv_Sx (As := [.int (((RND K X)) (5 * k)), .ref (ad qt), .int (nI (4 * k))]) (rest := []) (k := 3) ⟨hx, hb, hml, hown, hts⟩ h (m_Mx_writeWord l G A ad ev3 (RND K X (5 * k)) qt Nt (4 * k) (mixP K X T k) hqt t3_qt (by omega) nt2) kc_Mx_writeWord kl_Mx_35 ks_Mx_writeWord ki_Mx (by decide +kernel) ⟨rfl, rfl, Nat.le_of_ble_eq_true rfl, Nat.le_of_ble_eq_true rfl⟩ hl.1 rfl rfl (Nat.le_of_ble_eq_true rfl) ⟨Nat.le_refl _, Nat.le_refl _⟩ d_Mx_mixInto_33 ?_
      intro ov ev4 H locs hp h
      rw [hp.1]
      refine W.eq (g2 := F0 m 36 ls []) rfl ?_
      have o4 : ev4 = (va_up ev3 qt (eB G Nt (bs (fil (4 * k) 4 (byN (RND K X (5 * k))) (mixP K X T k))))) := hp.2
      have t4_qt : ev4 qt = eB G Nt (bs (fil (4 * k) 4 (byN (RND K X (5 * k))) (mixP K X T k))) := by rw [o4, va_up_self]
      have t4_7 := (show ev4 7 = ev3 7 by rw [o4, va_up_ne _ _ (Ne.symm t7)]).trans t3_7
      have t4_8 := (show ev4 8 = ev3 8 by rw [o4, va_up_ne _ _ (Ne.symm t8)]).trans t3_8
      have t4_6 := (show ev4 6 = ev3 6 by rw [o4, va_up_ne _ _ (Ne.symm t6)]).trans t3_6
      refine lv_aload_n hx hb d_Mx_mixInto_36 rfl (lv_at hl 1 rfl) ?_
      refine wv_getf hx hb h 6 (by decide) (fs := [.ref (ad 7), .ref (ad 8), .ref (ad 9), .ref (ad 10), .ref (ad 11)]) t4_6 hts (fun w hw => List.mem_cons_of_mem _ (fW_Mx w hw)) hown (ci := 2) (C := "NonceBox$Mixer") (T := fT_Mx) (N := 5) rfl 1 (by decide) (hts _ (List.mem_cons_of_mem _ kf_Mx_15)) rfl (v := .ref (ad 8)) rfl d_Mx_mixInto_37 ?_
      refine lv_bipush (v := nI (6)) hx hb d_Mx_mixInto_40 (by decide) ?_
      refine lv_iload hx hb d_Mx_mixInto_42 (lv_at hl 0 rfl) ?_
      refine lv_iadd hx hb d_Mx_mixInto_44 ?_
      refine wv_top (nI_add _ _) ?_
      refine wv_iald hx hb h 8 (by decide) (f := (RND K X)) t4_8 (k := 6 + k) rfl (by omega) (by decide) d_Mx_mixInto_45 ?_
      refine lv_aload_n hx hb d_Mx_mixInto_46 rfl (lv_at hl 4 rfl) ?_
      refine lv_bipush (v := nI (16)) hx hb d_Mx_mixInto_47 (by decide) ?_
      refine lv_iconst (v := nI (4)) hx hb d_Mx_mixInto_49 (by decide) ?_
      refine lv_iload hx hb d_Mx_mixInto_50 (lv_at hl 0 rfl) ?_
      refine lv_imul hx hb d_Mx_mixInto_52 ?_
      refine wv_top (pk_mul _ _) ?_
      refine lv_iadd hx hb d_Mx_mixInto_53 ?_
      refine wv_top (nI_add _ _) ?_
      refine wv_Sx (As := [.int (((RND K X)) (6 + k)), .ref (ad qt), .int (nI (16 + (4 * k)))]) (rest := []) (k := 3) ⟨hx, hb, hml, hown, hts⟩ h (m_Mx_writeWord l G A ad ev4 (RND K X (6 + k)) qt Nt (16 + 4 * k) (fil (4 * k) 4 (byN (RND K X (5 * k))) (mixP K X T k)) hqt t4_qt (by omega) nt2) kc_Mx_writeWord kl_Mx_35 ks_Mx_writeWord ki_Mx (by decide +kernel) ⟨rfl, rfl, Nat.le_of_ble_eq_true rfl, Nat.le_of_ble_eq_true rfl⟩ hl.1 rfl rfl (Nat.le_of_ble_eq_true rfl) ⟨Nat.le_refl _, Nat.le_refl _⟩ d_Mx_mixInto_54 ?_
      intro ov ev5 H locs hp h
      rw [hp.1]
      refine W.eq (g2 := F0 m 57 ls []) rfl ?_
      have o5 : ev5 = (va_up ev4 qt (eB G Nt (bs (fil (16 + 4 * k) 4 (byN (RND K X (6 + k))) (fil (4 * k) 4 (byN (RND K X (5 * k))) (mixP K X T k)))))) := hp.2
      have t5_qt : ev5 qt = eB G Nt (bs (fil (16 + 4 * k) 4 (byN (RND K X (6 + k))) (fil (4 * k) 4 (byN (RND K X (5 * k))) (mixP K X T k)))) := by rw [o5, va_up_self]
      have t5_7 := (show ev5 7 = ev4 7 by rw [o5, va_up_ne _ _ (Ne.symm t7)]).trans t4_7
      have t5_8 := (show ev5 8 = ev4 8 by rw [o5, va_up_ne _ _ (Ne.symm t8)]).trans t4_8
      have t5_6 := (show ev5 6 = ev4 6 by rw [o5, va_up_ne _ _ (Ne.symm t6)]).trans t4_6
      refine lv_iinc (v := nI (k + 1)) (lv' := [(4, .int (nI (k + 1))), (0, .ref (ad 6)), (1, .ref (ad qk)), (2, .ref (ad qx)), (3, .ref (ad qt))]) hx hb d_Mx_mixInto_57 hl (k := 0) rfl (nI_add _ _) (by decide) rfl (fun ls hl => ?_)
      refine lv_goto (tgt := 13) hx hb d_Mx_mixInto_60 (by decide) ?_
      refine ih (k + 1) (by omega) ev5 H locs ls ?_ h (lv_sub hl [0, 1, 2, 3, 4] rfl)
      rw [o5, o4, o3, va_up2, va_up2, mixP_s K X T (by omega)]
  exact loop3 4 0 rfl ev2 H locs ls (by rw [mixP_0, va_upi _ _ t2_qt]) h (lv_sub hl [0, 1, 2, 3, 4] rfl)
theorem d_Mx_coreInto_0 : decode c_Mx_coreInto 0 = .ok (.aload_n 0, 1) := by decide +kernel
theorem d_Mx_coreInto_1 : decode c_Mx_coreInto 1 = .ok (.aload_n 0, 1) := by decide +kernel
theorem d_Mx_coreInto_2 : decode c_Mx_coreInto 2 = .ok (.getfield 18, 3) := by decide +kernel
theorem d_Mx_coreInto_5 : decode c_Mx_coreInto 5 = .ok (.aload_n 0, 1) := by decide +kernel
theorem d_Mx_coreInto_6 : decode c_Mx_coreInto 6 = .ok (.getfield 22, 3) := by decide +kernel
theorem d_Mx_coreInto_9 : decode c_Mx_coreInto 9 = .ok (.invokevirtual 28, 3) := by decide +kernel
theorem d_Mx_coreInto_12 : decode c_Mx_coreInto 12 = .ok (.aload_n 0, 1) := by decide +kernel
theorem d_Mx_coreInto_13 : decode c_Mx_coreInto 13 = .ok (.invokevirtual 32, 3) := by decide +kernel
theorem d_Mx_coreInto_16 : decode c_Mx_coreInto 16 = .ok (.iconst 0, 1) := by decide +kernel
theorem d_Mx_coreInto_17 : decode c_Mx_coreInto 17 = .ok (.istore_n 2, 1) := by decide +kernel
theorem d_Mx_coreInto_18 : decode c_Mx_coreInto 18 = .ok (.iload_n 2, 1) := by decide +kernel
theorem d_Mx_coreInto_19 : decode c_Mx_coreInto 19 = .ok (.bipush 16, 2) := by decide +kernel
theorem d_Mx_coreInto_21 : decode c_Mx_coreInto 21 = .ok (.if_icmp .ge 34, 3) := by decide +kernel
theorem d_Mx_coreInto_24 : decode c_Mx_coreInto 24 = .ok (.aload_n 0, 1) := by decide +kernel
theorem d_Mx_coreInto_25 : decode c_Mx_coreInto 25 = .ok (.getfield 15, 3) := by decide +kernel
theorem d_Mx_coreInto_28 : decode c_Mx_coreInto 28 = .ok (.iload_n 2, 1) := by decide +kernel
theorem d_Mx_coreInto_29 : decode c_Mx_coreInto 29 = .ok (.iaload, 1) := by decide +kernel
theorem d_Mx_coreInto_30 : decode c_Mx_coreInto 30 = .ok (.aload_n 0, 1) := by decide +kernel
theorem d_Mx_coreInto_31 : decode c_Mx_coreInto 31 = .ok (.getfield 11, 3) := by decide +kernel
theorem d_Mx_coreInto_34 : decode c_Mx_coreInto 34 = .ok (.iload_n 2, 1) := by decide +kernel
theorem d_Mx_coreInto_35 : decode c_Mx_coreInto 35 = .ok (.iaload, 1) := by decide +kernel
theorem d_Mx_coreInto_36 : decode c_Mx_coreInto 36 = .ok (.iadd, 1) := by decide +kernel
theorem d_Mx_coreInto_37 : decode c_Mx_coreInto 37 = .ok (.aload_n 0, 1) := by decide +kernel
theorem d_Mx_coreInto_38 : decode c_Mx_coreInto 38 = .ok (.getfield 25, 3) := by decide +kernel
theorem d_Mx_coreInto_41 : decode c_Mx_coreInto 41 = .ok (.iload_n 1, 1) := by decide +kernel
theorem d_Mx_coreInto_42 : decode c_Mx_coreInto 42 = .ok (.iconst 4, 1) := by decide +kernel
theorem d_Mx_coreInto_43 : decode c_Mx_coreInto 43 = .ok (.iload_n 2, 1) := by decide +kernel
theorem d_Mx_coreInto_44 : decode c_Mx_coreInto 44 = .ok (.imul, 1) := by decide +kernel
theorem d_Mx_coreInto_45 : decode c_Mx_coreInto 45 = .ok (.iadd, 1) := by decide +kernel
theorem d_Mx_coreInto_46 : decode c_Mx_coreInto 46 = .ok (.invokestatic 35, 3) := by decide +kernel
theorem d_Mx_coreInto_49 : decode c_Mx_coreInto 49 = .ok (.iinc 2 1, 3) := by decide +kernel
theorem d_Mx_coreInto_52 : decode c_Mx_coreInto 52 = .ok (.goto (-34), 3) := by decide +kernel
theorem d_Mx_coreInto_55 : decode c_Mx_coreInto 55 = .ok (.return_, 1) := by decide +kernel
set_option maxRecDepth 100000 in
set_option maxHeartbeats 4000000 in
/-- CORE into the stream -/
theorem m_Mx_coreInto (l : Launch) (G : wG) (A : Nat → Prop) (ad : Nat → Nat) (ev : Nat → va_E) (o : Nat) (K X S : Nat → Nat) (f g : Nat → Int32) (h6 : ev 6 = eO 2 [.ref (ad 7), .ref (ad 8), .ref (ad 9), .ref (ad 10), .ref (ad 11)]) (h7 : ev 7 = eI G 16 f) (h8 : ev 8 = eI G 16 g) (h9 : ev 9 = eB G 32 (bs K)) (h10 : ev 10 = eB G 16 (bs X)) (h11 : ev 11 = eB G 128 (bs S)) (hK : ∀ j, K j < 256) (hX : ∀ j, X j < 256) (ho : o + 64 ≤ 128) : wM l y_Mx_coreInto w_Mx_coreInto ({ frames := 9, cells := 0, slots := 0, locals := 300 }) G A 52 ad ev [.ref (ad 6), .int (nI (o))] (fun ov ev' => ov = none ∧ ev' = va_up (va_up (va_up ev 7 (eI G 16 (LAY K X))) 8 (eI G 16 (RND K X))) 11 (eB G 128 (bs (fil o 64 (COREB K X) S)))) := by
  refine wv_ofW (cc := c_Mx_coreInto) (maxL := 3) (ret := none) (by decide) rfl (Nat.le_of_ble_eq_true rfl) ?_
  intro p e s m below meth c ls hx hb hr hml hts hown hlocks hini h hl
  have hl : lv_has ls 3 [(0, .ref (ad 6)), (1, .int (nI (o)))] := hl
  refine lv_aload_n hx hb d_Mx_coreInto_0 rfl (lv_at hl 0 rfl) ?_
  refine lv_aload_n hx hb d_Mx_coreInto_1 rfl (lv_at hl 0 rfl) ?_
  refine wv_getf hx hb h 6 (by decide) (fs := [.ref (ad 7), .ref (ad 8), .ref (ad 9), .ref (ad 10), .ref (ad 11)]) h6 hts (fun w hw => List.mem_cons_of_mem _ (fW_Mx w hw)) hown (ci := 2) (C := "NonceBox$Mixer") (T := fT_Mx) (N := 5) rfl 2 (by decide) (hts _ (List.mem_cons_of_mem _ kf_Mx_18)) rfl (v := .ref (ad 9)) rfl d_Mx_coreInto_2 ?_
  refine lv_aload_n hx hb d_Mx_coreInto_5 rfl (lv_at hl 0 rfl) ?_
  refine wv_getf hx hb h 6 (by decide) (fs := [.ref (ad 7), .ref (ad 8), .ref (ad 9), .ref (ad 10), .ref (ad 11)]) h6 hts (fun w hw => List.mem_cons_of_mem _ (fW_Mx w hw)) hown (ci := 2) (C := "NonceBox$Mixer") (T := fT_Mx) (N := 5) rfl 3 (by decide) (hts _ (List.mem_cons_of_mem _ kf_Mx_22)) rfl (v := .ref (ad 10)) rfl d_Mx_coreInto_6 ?_
  refine wv_V (As := [.ref (ad 9), .ref (ad 10)]) (rest := []) (k := 2) ⟨hx, hb, hml, hown, hts⟩ h 6 (by decide) (C := "NonceBox$Mixer") h6 rfl (m_Mx_layOut l G A ad ev 9 10 32 16 K X f g (by decide) (by decide) h6 h7 h8 h9 h10 (by decide) (by decide) hK hX (by decide) (by decide) (by decide) (by decide)) kc_Mx_layOut kl_Mx_28 km_Mx_layOut kv_Mx_layOut ki_Mx (by decide +kernel) ⟨rfl, rfl, Nat.le_of_ble_eq_true rfl, Nat.le_of_ble_eq_true rfl⟩ hl.1 rfl rfl (Nat.le_of_ble_eq_true rfl) ⟨Nat.le_refl _, Nat.le_refl _⟩ d_Mx_coreInto_9 ?_
  intro ov ev1 H locs hp h
  rw [hp.1]
  refine W.eq (g2 := F0 m 12 ls []) rfl ?_
  have o1 : ev1 = (va_up (va_up ev 7 (eI G 16 (LAY K X))) 8 (eI G 16 (LAY K X))) := hp.2
  have t1_7 : ev1 7 = eI G 16 (LAY K X) := by rw [o1, va_up_ne _ _ (by decide), va_up_self]
  have t1_8 : ev1 8 = eI G 16 (LAY K X) := by rw [o1, va_up_self]
  have t1_9 := (show ev1 9 = ev 9 by rw [o1, va_up_ne _ _ (by decide), va_up_ne _ _ (by decide)]).trans h9
  have t1_10 := (show ev1 10 = ev 10 by rw [o1, va_up_ne _ _ (by decide), va_up_ne _ _ (by decide)]).trans h10
  have t1_11 := (show ev1 11 = ev 11 by rw [o1, va_up_ne _ _ (by decide), va_up_ne _ _ (by decide)]).trans h11
  have t1_6 := (show ev1 6 = ev 6 by rw [o1, va_up_ne _ _ (by decide), va_up_ne _ _ (by decide)]).trans h6
  refine lv_aload_n hx hb d_Mx_coreInto_12 rfl (lv_at hl 0 rfl) ?_
  refine wv_V (As := []) (rest := []) (k := 0) ⟨hx, hb, hml, hown, hts⟩ h 6 (by decide) (C := "NonceBox$Mixer") t1_6 rfl (m_Mx_turnRounds l G A ad ev1 (LAY K X) t1_6 t1_8) kc_Mx_turnRounds kl_Mx_32 km_Mx_turnRounds kv_Mx_turnRounds ki_Mx (by decide +kernel) ⟨rfl, rfl, Nat.le_of_ble_eq_true rfl, Nat.le_of_ble_eq_true rfl⟩ hl.1 rfl rfl (Nat.le_of_ble_eq_true rfl) ⟨Nat.le_refl _, Nat.le_refl _⟩ d_Mx_coreInto_13 ?_
  intro ov ev2 H locs hp h
  rw [hp.1]
  refine W.eq (g2 := F0 m 16 ls []) rfl ?_
  have o2 : ev2 = (va_up ev1 8 (eI G 16 (RND K X))) := hp.2
  have t2_8 : ev2 8 = eI G 16 (RND K X) := by rw [o2, va_up_self]
  have t2_7 := (show ev2 7 = ev1 7 by rw [o2, va_up_ne _ _ (by decide)]).trans t1_7
  have t2_9 := (show ev2 9 = ev1 9 by rw [o2, va_up_ne _ _ (by decide)]).trans t1_9
  have t2_10 := (show ev2 10 = ev1 10 by rw [o2, va_up_ne _ _ (by decide)]).trans t1_10
  have t2_11 := (show ev2 11 = ev1 11 by rw [o2, va_up_ne _ _ (by decide)]).trans t1_11
  have t2_6 := (show ev2 6 = ev1 6 by rw [o2, va_up_ne _ _ (by decide)]).trans t1_6
  refine lv_iconst (v := nI (0)) hx hb d_Mx_coreInto_16 (by decide) ?_
  refine lv_istore_n (lv' := [(2, .int (nI (0))), (0, .ref (ad 6)), (1, .int (nI (o)))]) hx hb d_Mx_coreInto_17 rfl hl (by decide) rfl (fun ls hl => ?_)
  have loop3 : ∀ (d k : Nat), k + d = 16 →  ∀ (ev3 : Nat → va_E) (H : Heap) (locs : List Loc) (ls : Array Slot), ev3 = (va_up ev2 11 (eB G 128 (bs (fil o (4 * k) (COREB K X) S)))) → wT G A 52 ad ev3 s H locs → lv_has ls 3 [(2, .int (nI (k))), (0, .ref (ad 6)), (1, .int (nI (o)))] → W p l e ({ frames := 9, cells := 0, slots := 0, locals := 300 }) s m ([.ref (ad 6), .int (nI (o))] : List Value).toArray below meth c H locs 0 0 (MQ below (wQc G A 52 ad (fun ov ev' => ov = none ∧ ev' = va_up (va_up (va_up ev 7 (eI G 16 (LAY K X))) 8 (eI G 16 (RND K X))) 11 (eB G 128 (bs (fil o 64 (COREB K X) S))))) ([.ref (ad 6), .int (nI (o))] : List Value).toArray s 0 0 A) (F0 m 18 ls []) := by
    intro d
    induction d with
    | zero =>
      intro k hk_k  ev3 H locs ls  o3 h hl
      have t3_11 : ev3 11 = eB G 128 (bs (fil o (4 * k) (COREB K X) S)) := by rw [o3, va_up_self]
      have t3_7 := (show ev3 7 = ev2 7 by rw [o3, va_up_ne _ _ (by decide)]).trans t2_7
      have t3_8 := (show ev3 8 = ev2 8 by rw [o3, va_up_ne _ _ (by decide)]).trans t2_8
      have t3_9 := (show ev3 9 = ev2 9 by rw [o3, va_up_ne _ _ (by decide)]).trans t2_9
      have t3_10 := (show ev3 10 = ev2 10 by rw [o3, va_up_ne _ _ (by decide)]).trans t2_10
      have t3_6 := (show ev3 6 = ev2 6 by rw [o3, va_up_ne _ _ (by decide)]).trans t2_6
      refine lv_iload_n hx hb d_Mx_coreInto_18 rfl (lv_at hl 0 rfl) ?_
      refine lv_bipush (v := nI (16)) hx hb d_Mx_coreInto_19 (by decide) ?_
      refine lv_icmp_ge (tgt := 55) hx hb d_Mx_coreInto_21 (by decide) (fun _ => ?_) (fun hc => absurd ((nI_leI (by omega) (by omega)).mpr (by omega)) hc)
      refine wv_vret hx hb hr hlocks h d_Mx_coreInto_55 ⟨rfl, ?_⟩
      rw [o3, o2, o1, va_up2, show k = 16 by omega]
    | succ d ih =>
      intro k hk_k  ev3 H locs ls  o3 h hl
      have t3_11 : ev3 11 = eB G 128 (bs (fil o (4 * k) (COREB K X) S)) := by rw [o3, va_up_self]
      have t3_7 := (show ev3 7 = ev2 7 by rw [o3, va_up_ne _ _ (by decide)]).trans t2_7
      have t3_8 := (show ev3 8 = ev2 8 by rw [o3, va_up_ne _ _ (by decide)]).trans t2_8
      have t3_9 := (show ev3 9 = ev2 9 by rw [o3, va_up_ne _ _ (by decide)]).trans t2_9
      have t3_10 := (show ev3 10 = ev2 10 by rw [o3, va_up_ne _ _ (by decide)]).trans t2_10
      have t3_6 := (show ev3 6 = ev2 6 by rw [o3, va_up_ne _ _ (by decide)]).trans t2_6
      refine lv_iload_n hx hb d_Mx_coreInto_18 rfl (lv_at hl 0 rfl) ?_
      refine lv_bipush (v := nI (16)) hx hb d_Mx_coreInto_19 (by decide) ?_
      refine lv_icmp_ge (tgt := 55) hx hb d_Mx_coreInto_21 (by decide) (fun hc => absurd ((nI_leI (by omega) (by omega)).mp hc) (by omega)) (fun _ => ?_)
      refine lv_aload_n hx hb d_Mx_coreInto_24 rfl (lv_at hl 1 rfl) ?_
      refine wv_getf hx hb h 6 (by decide) (fs := [.ref (ad 7), .ref (ad 8), .ref (ad 9), .ref (ad 10), .ref (ad 11)]) t3_6 hts (fun w hw => List.mem_cons_of_mem _ (fW_Mx w hw)) hown (ci := 2) (C := "NonceBox$Mixer") (T := fT_Mx) (N := 5) rfl 1 (by decide) (hts _ (List.mem_cons_of_mem _ kf_Mx_15)) rfl (v := .ref (ad 8)) rfl d_Mx_coreInto_25 ?_
      refine lv_iload_n hx hb d_Mx_coreInto_28 rfl (lv_at hl 0 rfl) ?_
      refine wv_iald hx hb h 8 (by decide) (f := (RND K X)) t3_8 (k := k) rfl (by omega) (by decide) d_Mx_coreInto_29 ?_
      refine lv_aload_n hx hb d_Mx_coreInto_30 rfl (lv_at hl 1 rfl) ?_
      refine wv_getf hx hb h 6 (by decide) (fs := [.ref (ad 7), .ref (ad 8), .ref (ad 9), .ref (ad 10), .ref (ad 11)]) t3_6 hts (fun w hw => List.mem_cons_of_mem _ (fW_Mx w hw)) hown (ci := 2) (C := "NonceBox$Mixer") (T := fT_Mx) (N := 5) rfl 0 (by decide) (hts _ (List.mem_cons_of_mem _ kf_Mx_11)) rfl (v := .ref (ad 7)) rfl d_Mx_coreInto_31 ?_
      refine lv_iload_n hx hb d_Mx_coreInto_34 rfl (lv_at hl 0 rfl) ?_
      refine wv_iald hx hb h 7 (by decide) (f := (LAY K X)) t3_7 (k := k) rfl (by omega) (by decide) d_Mx_coreInto_35 ?_
      refine lv_iadd hx hb d_Mx_coreInto_36 ?_
      refine lv_aload_n hx hb d_Mx_coreInto_37 rfl (lv_at hl 1 rfl) ?_
      refine wv_getf hx hb h 6 (by decide) (fs := [.ref (ad 7), .ref (ad 8), .ref (ad 9), .ref (ad 10), .ref (ad 11)]) t3_6 hts (fun w hw => List.mem_cons_of_mem _ (fW_Mx w hw)) hown (ci := 2) (C := "NonceBox$Mixer") (T := fT_Mx) (N := 5) rfl 4 (by decide) (hts _ (List.mem_cons_of_mem _ kf_Mx_25)) rfl (v := .ref (ad 11)) rfl d_Mx_coreInto_38 ?_
      refine lv_iload_n hx hb d_Mx_coreInto_41 rfl (lv_at hl 2 rfl) ?_
      refine lv_iconst (v := nI (4)) hx hb d_Mx_coreInto_42 (by decide) ?_
      refine lv_iload_n hx hb d_Mx_coreInto_43 rfl (lv_at hl 0 rfl) ?_
      refine lv_imul hx hb d_Mx_coreInto_44 ?_
      refine wv_top (pk_mul _ _) ?_
      refine lv_iadd hx hb d_Mx_coreInto_45 ?_
      refine wv_top (nI_add _ _) ?_
      refine wv_Sx (As := [.int ((((RND K X)) k) + (((LAY K X)) k)), .ref (ad 11), .int (nI (o + (4 * k)))]) (rest := []) (k := 3) ⟨hx, hb, hml, hown, hts⟩ h (m_Mx_writeWord l G A ad ev3 (RND K X k + LAY K X k) 11 128 (o + 4 * k) (fil o (4 * k) (COREB K X) S) (by decide) t3_11 (by omega) (by decide)) kc_Mx_writeWord kl_Mx_35 ks_Mx_writeWord ki_Mx (by decide +kernel) ⟨rfl, rfl, Nat.le_of_ble_eq_true rfl, Nat.le_of_ble_eq_true rfl⟩ hl.1 rfl rfl (Nat.le_of_ble_eq_true rfl) ⟨Nat.le_refl _, Nat.le_refl _⟩ d_Mx_coreInto_46 ?_
      intro ov ev4 H locs hp h
      rw [hp.1]
      refine W.eq (g2 := F0 m 49 ls []) rfl ?_
      have o4 : ev4 = (va_up ev3 11 (eB G 128 (bs (fil (o + 4 * k) 4 (byN (RND K X k + LAY K X k)) (fil o (4 * k) (COREB K X) S))))) := hp.2
      have t4_11 : ev4 11 = eB G 128 (bs (fil (o + 4 * k) 4 (byN (RND K X k + LAY K X k)) (fil o (4 * k) (COREB K X) S))) := by rw [o4, va_up_self]
      have t4_7 := (show ev4 7 = ev3 7 by rw [o4, va_up_ne _ _ (by decide)]).trans t3_7
      have t4_8 := (show ev4 8 = ev3 8 by rw [o4, va_up_ne _ _ (by decide)]).trans t3_8
      have t4_9 := (show ev4 9 = ev3 9 by rw [o4, va_up_ne _ _ (by decide)]).trans t3_9
      have t4_10 := (show ev4 10 = ev3 10 by rw [o4, va_up_ne _ _ (by decide)]).trans t3_10
      have t4_6 := (show ev4 6 = ev3 6 by rw [o4, va_up_ne _ _ (by decide)]).trans t3_6
      refine lv_iinc (v := nI (k + 1)) (lv' := [(2, .int (nI (k + 1))), (0, .ref (ad 6)), (1, .int (nI (o)))]) hx hb d_Mx_coreInto_49 hl (k := 0) rfl (nI_add _ _) (by decide) rfl (fun ls hl => ?_)
      refine lv_goto (tgt := 18) hx hb d_Mx_coreInto_52 (by decide) ?_
      refine ih (k + 1) (by omega) ev4 H locs ls ?_ h (lv_sub hl [0, 1, 2] rfl)
      rw [o4, o3, va_up2, core_s]
  exact loop3 16 0 rfl ev2 H locs ls (by rw [Nat.mul_zero, fil_0, va_upi _ _ t2_11]) h (lv_sub hl [0, 1, 2] rfl)
theorem plc_up (X : Nat → Nat) (v i : Nat) : va_up (PLC X v) 8 i = PLC X i := by
  funext j
  unfold va_up PLC
  by_cases h : j = 8
  · subst h
    simp
  · rw [if_neg h]
    by_cases h2 : j < 8
    · rw [if_pos h2, if_pos h2]
    · rw [if_neg h2, if_neg h2, if_neg h, if_neg h]
theorem plc_lt {X : Nat → Nat} (hX : ∀ j, X j < 256) {v : Nat} (hv : v < 256) (j : Nat) : PLC X v j < 256 := by
  unfold PLC
  by_cases h : j < 8
  · rw [if_pos h]; exact hX _
  · rw [if_neg h]
    by_cases h2 : j = 8
    · rw [if_pos h2]; exact hv
    · rw [if_neg h2]; decide
theorem str_s (K X S : Nat → Nat) (k : Nat) : fil (0 + 64 * k) 64 (COREB (MIXB K X) (PLC X k)) (fil 0 (64 * k) (STRB K X) S) = fil 0 (64 * (k + 1)) (STRB K X) S :=
  fil_app (fun b hb => by
    unfold STRB
    rw [show (64 * k + b) / 64 = k by omega, show (64 * k + b) % 64 = b by omega])
theorem nar_nI {k : Nat} : vp_nar .byte (nI k).toInt8.toInt32 = sb_b k := by rw [pk_vb]; rfl
theorem d_Mx_streamOf_0 : decode c_Mx_streamOf 0 = .ok (.aload_n 0, 1) := by decide +kernel
theorem d_Mx_streamOf_1 : decode c_Mx_streamOf 1 = .ok (.aload_n 1, 1) := by decide +kernel
theorem d_Mx_streamOf_2 : decode c_Mx_streamOf 2 = .ok (.aload_n 2, 1) := by decide +kernel
theorem d_Mx_streamOf_3 : decode c_Mx_streamOf 3 = .ok (.aload_n 0, 1) := by decide +kernel
theorem d_Mx_streamOf_4 : decode c_Mx_streamOf 4 = .ok (.getfield 18, 3) := by decide +kernel
theorem d_Mx_streamOf_7 : decode c_Mx_streamOf 7 = .ok (.invokevirtual 39, 3) := by decide +kernel
theorem d_Mx_streamOf_10 : decode c_Mx_streamOf 10 = .ok (.aload_n 2, 1) := by decide +kernel
theorem d_Mx_streamOf_11 : decode c_Mx_streamOf 11 = .ok (.bipush 16, 2) := by decide +kernel
theorem d_Mx_streamOf_13 : decode c_Mx_streamOf 13 = .ok (.aload_n 0, 1) := by decide +kernel
theorem d_Mx_streamOf_14 : decode c_Mx_streamOf 14 = .ok (.getfield 22, 3) := by decide +kernel
theorem d_Mx_streamOf_17 : decode c_Mx_streamOf 17 = .ok (.iconst 0, 1) := by decide +kernel
theorem d_Mx_streamOf_18 : decode c_Mx_streamOf 18 = .ok (.bipush 8, 2) := by decide +kernel
theorem d_Mx_streamOf_20 : decode c_Mx_streamOf 20 = .ok (.invokestatic 43, 3) := by decide +kernel
theorem d_Mx_streamOf_23 : decode c_Mx_streamOf 23 = .ok (.iconst 0, 1) := by decide +kernel
theorem d_Mx_streamOf_24 : decode c_Mx_streamOf 24 = .ok (.istore 4, 2) := by decide +kernel
theorem d_Mx_streamOf_26 : decode c_Mx_streamOf 26 = .ok (.iload 4, 2) := by decide +kernel
theorem d_Mx_streamOf_28 : decode c_Mx_streamOf 28 = .ok (.iconst 2, 1) := by decide +kernel
theorem d_Mx_streamOf_29 : decode c_Mx_streamOf 29 = .ok (.if_icmp .ge 37, 3) := by decide +kernel
theorem d_Mx_streamOf_32 : decode c_Mx_streamOf 32 = .ok (.iload 4, 2) := by decide +kernel
theorem d_Mx_streamOf_34 : decode c_Mx_streamOf 34 = .ok (.bipush 64, 2) := by decide +kernel
theorem d_Mx_streamOf_36 : decode c_Mx_streamOf 36 = .ok (.imul, 1) := by decide +kernel
theorem d_Mx_streamOf_37 : decode c_Mx_streamOf 37 = .ok (.iload_n 3, 1) := by decide +kernel
theorem d_Mx_streamOf_38 : decode c_Mx_streamOf 38 = .ok (.if_icmp .ge 28, 3) := by decide +kernel
theorem d_Mx_streamOf_41 : decode c_Mx_streamOf 41 = .ok (.aload_n 0, 1) := by decide +kernel
theorem d_Mx_streamOf_42 : decode c_Mx_streamOf 42 = .ok (.getfield 22, 3) := by decide +kernel
theorem d_Mx_streamOf_45 : decode c_Mx_streamOf 45 = .ok (.bipush 8, 2) := by decide +kernel
theorem d_Mx_streamOf_47 : decode c_Mx_streamOf 47 = .ok (.iload 4, 2) := by decide +kernel
theorem d_Mx_streamOf_49 : decode c_Mx_streamOf 49 = .ok (.i2b, 1) := by decide +kernel
theorem d_Mx_streamOf_50 : decode c_Mx_streamOf 50 = .ok (.bastore, 1) := by decide +kernel
theorem d_Mx_streamOf_51 : decode c_Mx_streamOf 51 = .ok (.aload_n 0, 1) := by decide +kernel
theorem d_Mx_streamOf_52 : decode c_Mx_streamOf 52 = .ok (.iload 4, 2) := by decide +kernel
theorem d_Mx_streamOf_54 : decode c_Mx_streamOf 54 = .ok (.bipush 64, 2) := by decide +kernel
theorem d_Mx_streamOf_56 : decode c_Mx_streamOf 56 = .ok (.imul, 1) := by decide +kernel
theorem d_Mx_streamOf_57 : decode c_Mx_streamOf 57 = .ok (.invokevirtual 49, 3) := by decide +kernel
theorem d_Mx_streamOf_60 : decode c_Mx_streamOf 60 = .ok (.iinc 4 1, 3) := by decide +kernel
theorem d_Mx_streamOf_63 : decode c_Mx_streamOf 63 = .ok (.goto (-37), 3) := by decide +kernel
theorem d_Mx_streamOf_66 : decode c_Mx_streamOf 66 = .ok (.aload_n 0, 1) := by decide +kernel
theorem d_Mx_streamOf_67 : decode c_Mx_streamOf 67 = .ok (.getfield 25, 3) := by decide +kernel
theorem d_Mx_streamOf_70 : decode c_Mx_streamOf 70 = .ok (.areturn, 1) := by decide +kernel
set_option maxRecDepth 100000 in
set_option maxHeartbeats 4000000 in
/-- THE STREAM, n bytes of it at least -/
theorem m_Mx_streamOf (l : Launch) (G : wG) (A : Nat → Prop) (ad : Nat → Nat) (ev : Nat → va_E) (qk qx Nk Nx n : Nat) (K X SK PP S : Nat → Nat) (f g : Nat → Int32) (hqk : qk < 52) (hqx : qx < 52) (h6 : ev 6 = eO 2 [.ref (ad 7), .ref (ad 8), .ref (ad 9), .ref (ad 10), .ref (ad 11)]) (h7 : ev 7 = eI G 16 f) (h8 : ev 8 = eI G 16 g) (h9 : ev 9 = eB G 32 (bs SK)) (h10 : ev 10 = eB G 16 (bs PP)) (h11 : ev 11 = eB G 128 (bs S)) (hk : ev qk = eB G Nk (bs K)) (hx' : ev qx = eB G Nx (bs X)) (k7 : qk ≠ 7) (x7 : qx < 6 ∨ 11 < qx) (hK : ∀ j, K j < 256) (hX : ∀ j, X j < 256) (hP : ∀ j, PP j < 256) (hP0 : ∀ j, 9 ≤ j → PP j = 0) (hS : ∀ j, S j < 256) (nk : 32 ≤ Nk) (nx : 24 ≤ Nx) (hn : n ≤ 128) (nk2 : Nk < 2 ^ 31) (nx2 : Nx < 2 ^ 31) : wM l y_Mx_streamOf w_Mx_streamOf ({ frames := 12, cells := 0, slots := 0, locals := 400 }) G A 52 ad ev [.ref (ad 6), .ref (ad qk), .ref (ad qx), .int (nI (n))] (fun ov ev' => ∃ (f7 f8 : Nat → Int32) (v : Nat) (S' : Nat → Nat), ov = some (.ref (ad 11)) ∧ ev' = va_up (va_up (va_up (va_up (va_up ev 7 (eI G 16 f7)) 8 (eI G 16 f8)) 9 (eB G 32 (bs (MIXB K X)))) 10 (eB G 16 (bs (PLC X v)))) 11 (eB G 128 (bs S')) ∧ v < 256 ∧ (∀ j, S' j < 256) ∧ ∀ j, j < n → S' j = STRB K X j) := by
  refine wv_ofW (cc := c_Mx_streamOf) (maxL := 5) (ret := (Option.some (FieldType.array FieldType.byte))) (by decide) rfl (Nat.le_of_ble_eq_true rfl) ?_
  intro p e s m below meth c ls hx hb hr hml hts hown hlocks hini h hl
  have hl : lv_has ls 5 [(0, .ref (ad 6)), (1, .ref (ad qk)), (2, .ref (ad qx)), (3, .int (nI (n)))] := hl
  refine lv_aload_n hx hb d_Mx_streamOf_0 rfl (lv_at hl 0 rfl) ?_
  refine lv_aload_n hx hb d_Mx_streamOf_1 rfl (lv_at hl 1 rfl) ?_
  refine lv_aload_n hx hb d_Mx_streamOf_2 rfl (lv_at hl 2 rfl) ?_
  refine lv_aload_n hx hb d_Mx_streamOf_3 rfl (lv_at hl 0 rfl) ?_
  refine wv_getf hx hb h 6 (by decide) (fs := [.ref (ad 7), .ref (ad 8), .ref (ad 9), .ref (ad 10), .ref (ad 11)]) h6 hts (fun w hw => List.mem_cons_of_mem _ (fW_Mx w hw)) hown (ci := 2) (C := "NonceBox$Mixer") (T := fT_Mx) (N := 5) rfl 2 (by decide) (hts _ (List.mem_cons_of_mem _ kf_Mx_18)) rfl (v := .ref (ad 9)) rfl d_Mx_streamOf_4 ?_
  refine wv_V (As := [.ref (ad qk), .ref (ad qx), .ref (ad 9)]) (rest := []) (k := 3) ⟨hx, hb, hml, hown, hts⟩ h 6 (by decide) (C := "NonceBox$Mixer") h6 rfl (m_Mx_mixInto l G A ad ev qk qx 9 Nk Nx 32 K X SK f g hqk hqx (by decide) h6 h7 h8 hk hx' h9 k7 (by omega) (by decide) (by decide) (by decide) hK hX nk (by omega) (by decide) nk2 nx2 (by decide)) kc_Mx_mixInto kl_Mx_39 km_Mx_mixInto kv_Mx_mixInto ki_Mx (by decide +kernel) ⟨rfl, rfl, Nat.le_of_ble_eq_true rfl, Nat.le_of_ble_eq_true rfl⟩ hl.1 rfl rfl (Nat.le_of_ble_eq_true rfl) ⟨Nat.le_refl _, Nat.le_refl _⟩ d_Mx_streamOf_7 ?_
  intro ov ev1 H locs hp h
  rw [hp.1]
  refine W.eq (g2 := F0 m 10 ls []) rfl ?_
  have o1 : ev1 = (va_up (va_up (va_up ev 7 (eI G 16 (LAY K X))) 8 (eI G 16 (RND K X))) 9 (eB G 32 (bs (fil 0 32 (MIXB K X) SK)))) := hp.2
  have t1_7 : ev1 7 = eI G 16 (LAY K X) := by rw [o1, va_up_ne _ _ (by decide), va_up_ne _ _ (by decide), va_up_self]
  have t1_8 : ev1 8 = eI G 16 (RND K X) := by rw [o1, va_up_ne _ _ (by decide), va_up_self]
  have t1_9 : ev1 9 = eB G 32 (bs (fil 0 32 (MIXB K X) SK)) := by rw [o1, va_up_self]
  have t1_10 := (show ev1 10 = ev 10 by rw [o1, va_up_ne _ _ (by decide), va_up_ne _ _ (by decide), va_up_ne _ _ (by decide)]).trans h10
  have t1_11 := (show ev1 11 = ev 11 by rw [o1, va_up_ne _ _ (by decide), va_up_ne _ _ (by decide), va_up_ne _ _ (by decide)]).trans h11
  have t1_qx := (show ev1 qx = ev qx by rw [o1, va_up_ne _ _ (by omega), va_up_ne _ _ (by omega), va_up_ne _ _ (by omega)]).trans hx'
  have t1_6 := (show ev1 6 = ev 6 by rw [o1, va_up_ne _ _ (by decide), va_up_ne _ _ (by decide), va_up_ne _ _ (by decide)]).trans h6
  have h := wT_eqB (g := (bs (MIXB K X))) h 9 (by decide) t1_9 (fun j hj => by unfold bs fil; rw [if_pos (by omega), Nat.sub_zero])
  obtain ⟨ev2, o2⟩ : ∃ z, z = va_up ev1 9 (eB G 32 (bs (MIXB K X))) := ⟨_, rfl⟩
  rw [← o2] at h
  have t2_9 : ev2 9 = eB G 32 (bs (MIXB K X)) := by rw [o2, va_up_self]
  have t2_7 := (show ev2 7 = ev1 7 by rw [o2, va_up_ne _ _ (by decide)]).trans t1_7
  have t2_8 := (show ev2 8 = ev1 8 by rw [o2, va_up_ne _ _ (by decide)]).trans t1_8
  have t2_10 := (show ev2 10 = ev1 10 by rw [o2, va_up_ne _ _ (by decide)]).trans t1_10
  have t2_11 := (show ev2 11 = ev1 11 by rw [o2, va_up_ne _ _ (by decide)]).trans t1_11
  have t2_qx := (show ev2 qx = ev1 qx by rw [o2, va_up_ne _ _ (by omega)]).trans t1_qx
  have t2_6 := (show ev2 6 = ev1 6 by rw [o2, va_up_ne _ _ (by decide)]).trans t1_6
  refine lv_aload_n hx hb d_Mx_streamOf_10 rfl (lv_at hl 2 rfl) ?_
  refine lv_bipush (v := nI (16)) hx hb d_Mx_streamOf_11 (by decide) ?_
  refine lv_aload_n hx hb d_Mx_streamOf_13 rfl (lv_at hl 0 rfl) ?_
  refine wv_getf hx hb h 6 (by decide) (fs := [.ref (ad 7), .ref (ad 8), .ref (ad 9), .ref (ad 10), .ref (ad 11)]) t2_6 hts (fun w hw => List.mem_cons_of_mem _ (fW_Mx w hw)) hown (ci := 2) (C := "NonceBox$Mixer") (T := fT_Mx) (N := 5) rfl 3 (by decide) (hts _ (List.mem_cons_of_mem _ kf_Mx_22)) rfl (v := .ref (ad 10)) rfl d_Mx_streamOf_14 ?_
  refine lv_iconst (v := nI (0)) hx hb d_Mx_streamOf_17 (by decide) ?_
  refine lv_bipush (v := nI (8)) hx hb d_Mx_streamOf_18 (by decide) ?_
  refine wv_copyb hx hb (hml.trans hl.1.symm) h hown (hts _ (List.mem_cons_of_mem _ kl_Mx_43)) (hts _ (List.mem_cons_of_mem _ kn_Sy_arraycopy)) (hts _ (List.mem_cons_of_mem _ ks_Sy_arraycopy)) (hts _ (List.mem_cons_of_mem _ ki_Sy)) qx 10 hqx (by decide) (f := (bs X)) (g := (bs PP)) t2_qx t2_10 (a := 16) (b := 0) (d := 8) rfl rfl rfl (by omega) (by omega) nx2 (by decide) (fun i _ => bs_fit _ _) (by decide) (by decide) d_Mx_streamOf_20 (fun H locs h => ?_)
  obtain ⟨ev3, o3⟩ : ∃ z, z = va_up ev2 10 (eB G 16 (va_cpy (bs X) (bs PP) 16 0 8)) := ⟨_, rfl⟩
  rw [← o3] at h
  have t3_10 : ev3 10 = eB G 16 (va_cpy (bs X) (bs PP) 16 0 8) := by rw [o3, va_up_self]
  have t3_7 := (show ev3 7 = ev2 7 by rw [o3, va_up_ne _ _ (by decide)]).trans t2_7
  have t3_8 := (show ev3 8 = ev2 8 by rw [o3, va_up_ne _ _ (by decide)]).trans t2_8
  have t3_9 := (show ev3 9 = ev2 9 by rw [o3, va_up_ne _ _ (by decide)]).trans t2_9
  have t3_11 := (show ev3 11 = ev2 11 by rw [o3, va_up_ne _ _ (by decide)]).trans t2_11
  have t3_qx := (show ev3 qx = ev2 qx by rw [o3, va_up_ne _ _ (by omega)]).trans t2_qx
  have t3_6 := (show ev3 6 = ev2 6 by rw [o3, va_up_ne _ _ (by decide)]).trans t2_6
  have h := wT_eqB (g := (bs (PLC X (PP 8)))) h 10 (by decide) t3_10 (fun j hj => by
      unfold va_cpy bs PLC
      by_cases c1 : j < 8
      · rw [if_pos (by omega), if_pos c1, Nat.sub_zero]
      · rw [if_neg (by omega), if_neg c1]
        by_cases c2 : j = 8
        · rw [if_pos c2, c2]
        · rw [if_neg c2, hP0 j (by omega)])
  obtain ⟨ev4, o4⟩ : ∃ z, z = va_up ev3 10 (eB G 16 (bs (PLC X (PP 8)))) := ⟨_, rfl⟩
  rw [← o4] at h
  have t4_10 : ev4 10 = eB G 16 (bs (PLC X (PP 8))) := by rw [o4, va_up_self]
  have t4_7 := (show ev4 7 = ev3 7 by rw [o4, va_up_ne _ _ (by decide)]).trans t3_7
  have t4_8 := (show ev4 8 = ev3 8 by rw [o4, va_up_ne _ _ (by decide)]).trans t3_8
  have t4_9 := (show ev4 9 = ev3 9 by rw [o4, va_up_ne _ _ (by decide)]).trans t3_9
  have t4_11 := (show ev4 11 = ev3 11 by rw [o4, va_up_ne _ _ (by decide)]).trans t3_11
  have t4_qx := (show ev4 qx = ev3 qx by rw [o4, va_up_ne _ _ (by omega)]).trans t3_qx
  have t4_6 := (show ev4 6 = ev3 6 by rw [o4, va_up_ne _ _ (by decide)]).trans t3_6
  refine lv_iconst (v := nI (0)) hx hb d_Mx_streamOf_23 (by decide) ?_
  refine lv_istore (lv' := [(4, .int (nI (0))), (0, .ref (ad 6)), (1, .ref (ad qk)), (2, .ref (ad qx)), (3, .int (nI (n)))]) hx hb d_Mx_streamOf_24 hl (by decide) rfl (fun ls hl => ?_)
  have loop5 : ∀ (d k : Nat), k + d = 2 → ∀ (v : Nat) (f7 f8 : Nat → Int32),  ∀ (ev5 : Nat → va_E) (H : Heap) (locs : List Loc) (ls : Array Slot), v < 256 → ev5 = (va_up (va_up (va_up (va_up ev4 7 (eI G 16 f7)) 8 (eI G 16 f8)) 10 (eB G 16 (bs (PLC X v)))) 11 (eB G 128 (bs (fil 0 (64 * k) (STRB K X) S)))) → wT G A 52 ad ev5 s H locs → lv_has ls 5 [(4, .int (nI (k))), (0, .ref (ad 6)), (1, .ref (ad qk)), (2, .ref (ad qx)), (3, .int (nI (n)))] → W p l e ({ frames := 12, cells := 0, slots := 0, locals := 400 }) s m ([.ref (ad 6), .ref (ad qk), .ref (ad qx), .int (nI (n))] : List Value).toArray below meth c H locs 0 0 (MQ below (wQc G A 52 ad (fun ov ev' => ∃ (f7 f8 : Nat → Int32) (v : Nat) (S' : Nat → Nat), ov = some (.ref (ad 11)) ∧ ev' = va_up (va_up (va_up (va_up (va_up ev 7 (eI G 16 f7)) 8 (eI G 16 f8)) 9 (eB G 32 (bs (MIXB K X)))) 10 (eB G 16 (bs (PLC X v)))) 11 (eB G 128 (bs S')) ∧ v < 256 ∧ (∀ j, S' j < 256) ∧ ∀ j, j < n → S' j = STRB K X j)) ([.ref (ad 6), .ref (ad qk), .ref (ad qx), .int (nI (n))] : List Value).toArray s 0 0 A) (F0 m 26 ls []) := by
    intro d
    induction d with
    | zero =>
      intro k hk_k v f7 f8 ev5 H locs ls hv o5 h hl
      have t5_7 : ev5 7 = eI G 16 f7 := by rw [o5, va_up_ne _ _ (by decide), va_up_ne _ _ (by decide), va_up_ne _ _ (by decide), va_up_self]
      have t5_8 : ev5 8 = eI G 16 f8 := by rw [o5, va_up_ne _ _ (by decide), va_up_ne _ _ (by decide), va_up_self]
      have t5_10 : ev5 10 = eB G 16 (bs (PLC X v)) := by rw [o5, va_up_ne _ _ (by decide), va_up_self]
      have t5_11 : ev5 11 = eB G 128 (bs (fil 0 (64 * k) (STRB K X) S)) := by rw [o5, va_up_self]
      have t5_9 := (show ev5 9 = ev4 9 by rw [o5, va_up_ne _ _ (by decide), va_up_ne _ _ (by decide), va_up_ne _ _ (by decide), va_up_ne _ _ (by decide)]).trans t4_9
      have t5_qx := (show ev5 qx = ev4 qx by rw [o5, va_up_ne _ _ (by omega), va_up_ne _ _ (by omega), va_up_ne _ _ (by omega), va_up_ne _ _ (by omega)]).trans t4_qx
      have t5_6 := (show ev5 6 = ev4 6 by rw [o5, va_up_ne _ _ (by decide), va_up_ne _ _ (by decide), va_up_ne _ _ (by decide), va_up_ne _ _ (by decide)]).trans t4_6
      refine lv_iload hx hb d_Mx_streamOf_26 (lv_at hl 0 rfl) ?_
      refine lv_iconst (v := nI (2)) hx hb d_Mx_streamOf_28 (by decide) ?_
      refine lv_icmp_ge (tgt := 66) hx hb d_Mx_streamOf_29 (by decide) (fun _ => ?_) (fun hc => absurd ((nI_leI (by omega) (by omega)).mpr (by omega)) hc)
      refine lv_aload_n hx hb d_Mx_streamOf_66 rfl (lv_at hl 1 rfl) ?_
      refine wv_getf hx hb h 6 (by decide) (fs := [.ref (ad 7), .ref (ad 8), .ref (ad 9), .ref (ad 10), .ref (ad 11)]) t5_6 hts (fun w hw => List.mem_cons_of_mem _ (fW_Mx w hw)) hown (ci := 2) (C := "NonceBox$Mixer") (T := fT_Mx) (N := 5) rfl 4 (by decide) (hts _ (List.mem_cons_of_mem _ kf_Mx_25)) rfl (v := .ref (ad 11)) rfl d_Mx_streamOf_67 ?_
      refine wv_aret (v := .ref (ad 11)) hx hb hr hlocks h d_Mx_streamOf_70 (Or.inr ⟨_, rfl⟩) (Or.inr ⟨_, rfl⟩) ⟨f7, f8, v, fil 0 (64 * k) (STRB K X) S, rfl, ?_, hv, fil_lt (STRB_lt K X) hS, fun j hj => by unfold fil; rw [if_pos (by omega), Nat.sub_zero]⟩
      rw [o5, o4, o3, o2, o1]
      funext j
      by_cases c0 : j = 7
      · subst c0; simp [va_up]
      by_cases c1 : j = 8
      · subst c1; simp [va_up]
      by_cases c2 : j = 9
      · subst c2; simp [va_up]
      by_cases c3 : j = 10
      · subst c3; simp [va_up]
      by_cases c4 : j = 11
      · subst c4; simp [va_up]
      simp only [va_up, c0, c1, c2, c3, c4, if_false]
    | succ d ih =>
      intro k hk_k v f7 f8 ev5 H locs ls hv o5 h hl
      have t5_7 : ev5 7 = eI G 16 f7 := by rw [o5, va_up_ne _ _ (by decide), va_up_ne _ _ (by decide), va_up_ne _ _ (by decide), va_up_self]
      have t5_8 : ev5 8 = eI G 16 f8 := by rw [o5, va_up_ne _ _ (by decide), va_up_ne _ _ (by decide), va_up_self]
      have t5_10 : ev5 10 = eB G 16 (bs (PLC X v)) := by rw [o5, va_up_ne _ _ (by decide), va_up_self]
      have t5_11 : ev5 11 = eB G 128 (bs (fil 0 (64 * k) (STRB K X) S)) := by rw [o5, va_up_self]
      have t5_9 := (show ev5 9 = ev4 9 by rw [o5, va_up_ne _ _ (by decide), va_up_ne _ _ (by decide), va_up_ne _ _ (by decide), va_up_ne _ _ (by decide)]).trans t4_9
      have t5_qx := (show ev5 qx = ev4 qx by rw [o5, va_up_ne _ _ (by omega), va_up_ne _ _ (by omega), va_up_ne _ _ (by omega), va_up_ne _ _ (by omega)]).trans t4_qx
      have t5_6 := (show ev5 6 = ev4 6 by rw [o5, va_up_ne _ _ (by decide), va_up_ne _ _ (by decide), va_up_ne _ _ (by decide), va_up_ne _ _ (by decide)]).trans t4_6
      refine lv_iload hx hb d_Mx_streamOf_26 (lv_at hl 0 rfl) ?_
      refine lv_iconst (v := nI (2)) hx hb d_Mx_streamOf_28 (by decide) ?_
      refine lv_icmp_ge (tgt := 66) hx hb d_Mx_streamOf_29 (by decide) (fun hc => absurd ((nI_leI (by omega) (by omega)).mp hc) (by omega)) (fun _ => ?_)
      refine lv_iload hx hb d_Mx_streamOf_32 (lv_at hl 0 rfl) ?_
      refine lv_bipush (v := nI (64)) hx hb d_Mx_streamOf_34 (by decide) ?_
      refine lv_imul hx hb d_Mx_streamOf_36 ?_
      refine wv_top (pk_mul _ _) ?_
      refine lv_iload_n hx hb d_Mx_streamOf_37 rfl (lv_at hl 4 rfl) ?_
      refine lv_icmp_ge (tgt := 66) hx hb d_Mx_streamOf_38 (by decide) (fun hc => ?_) (fun hc => ?_)
      · have hc := (nI_leI (by omega) (by omega)).mp hc
        refine lv_aload_n hx hb d_Mx_streamOf_66 rfl (lv_at hl 1 rfl) ?_
        refine wv_getf hx hb h 6 (by decide) (fs := [.ref (ad 7), .ref (ad 8), .ref (ad 9), .ref (ad 10), .ref (ad 11)]) t5_6 hts (fun w hw => List.mem_cons_of_mem _ (fW_Mx w hw)) hown (ci := 2) (C := "NonceBox$Mixer") (T := fT_Mx) (N := 5) rfl 4 (by decide) (hts _ (List.mem_cons_of_mem _ kf_Mx_25)) rfl (v := .ref (ad 11)) rfl d_Mx_streamOf_67 ?_
        refine wv_aret (v := .ref (ad 11)) hx hb hr hlocks h d_Mx_streamOf_70 (Or.inr ⟨_, rfl⟩) (Or.inr ⟨_, rfl⟩) ⟨f7, f8, v, fil 0 (64 * k) (STRB K X) S, rfl, ?_, hv, fil_lt (STRB_lt K X) hS, fun j hj => by unfold fil; rw [if_pos (by omega), Nat.sub_zero]⟩
        rw [o5, o4, o3, o2, o1]
        funext j
        by_cases c0 : j = 7
        · subst c0; simp [va_up]
        by_cases c1 : j = 8
        · subst c1; simp [va_up]
        by_cases c2 : j = 9
        · subst c2; simp [va_up]
        by_cases c3 : j = 10
        · subst c3; simp [va_up]
        by_cases c4 : j = 11
        · subst c4; simp [va_up]
        simp only [va_up, c0, c1, c2, c3, c4, if_false]
      · skip
        refine lv_aload_n hx hb d_Mx_streamOf_41 rfl (lv_at hl 1 rfl) ?_
        refine wv_getf hx hb h 6 (by decide) (fs := [.ref (ad 7), .ref (ad 8), .ref (ad 9), .ref (ad 10), .ref (ad 11)]) t5_6 hts (fun w hw => List.mem_cons_of_mem _ (fW_Mx w hw)) hown (ci := 2) (C := "NonceBox$Mixer") (T := fT_Mx) (N := 5) rfl 3 (by decide) (hts _ (List.mem_cons_of_mem _ kf_Mx_22)) rfl (v := .ref (ad 10)) rfl d_Mx_streamOf_42 ?_
        refine lv_bipush (v := nI (8)) hx hb d_Mx_streamOf_45 (by decide) ?_
        refine lv_iload hx hb d_Mx_streamOf_47 (lv_at hl 0 rfl) ?_
        refine lv_i2b hx hb d_Mx_streamOf_49 rfl ?_
        refine wv_bast hx hb h 10 (by decide) (f := (bs (PLC X v))) t5_10 (k := 8) rfl (by decide) (by decide) d_Mx_streamOf_50 (fun H locs h => ?_)
        obtain ⟨ev6, o6⟩ : ∃ z, z = va_up ev5 10 (eB G 16 (va_up ((bs (PLC X v))) 8 (vp_nar .byte ((nI (k)).toInt8.toInt32)))) := ⟨_, rfl⟩
        rw [← o6] at h
        have t6_10 : ev6 10 = eB G 16 (va_up ((bs (PLC X v))) 8 (vp_nar .byte ((nI (k)).toInt8.toInt32))) := by rw [o6, va_up_self]
        have t6_7 := (show ev6 7 = ev5 7 by rw [o6, va_up_ne _ _ (by decide)]).trans t5_7
        have t6_8 := (show ev6 8 = ev5 8 by rw [o6, va_up_ne _ _ (by decide)]).trans t5_8
        have t6_9 := (show ev6 9 = ev5 9 by rw [o6, va_up_ne _ _ (by decide)]).trans t5_9
        have t6_11 := (show ev6 11 = ev5 11 by rw [o6, va_up_ne _ _ (by decide)]).trans t5_11
        have t6_qx := (show ev6 qx = ev5 qx by rw [o6, va_up_ne _ _ (by omega)]).trans t5_qx
        have t6_6 := (show ev6 6 = ev5 6 by rw [o6, va_up_ne _ _ (by decide)]).trans t5_6
        rw [bs_up _ _ k nar_nI, plc_up] at o6 t6_10
        refine lv_aload_n hx hb d_Mx_streamOf_51 rfl (lv_at hl 1 rfl) ?_
        refine lv_iload hx hb d_Mx_streamOf_52 (lv_at hl 0 rfl) ?_
        refine lv_bipush (v := nI (64)) hx hb d_Mx_streamOf_54 (by decide) ?_
        refine lv_imul hx hb d_Mx_streamOf_56 ?_
        refine wv_top (pk_mul _ _) ?_
        refine wv_V (As := [.int (nI (k * 64))]) (rest := []) (k := 1) ⟨hx, hb, hml, hown, hts⟩ h 6 (by decide) (C := "NonceBox$Mixer") t6_6 rfl (m_Mx_coreInto l G A ad ev6 (k * 64) (MIXB K X) (PLC X k) (fil 0 (64 * k) (STRB K X) S) f7 f8 t6_6 t6_7 t6_8 t6_9 t6_10 t6_11 (MIXB_lt K X) (plc_lt hX (by omega)) (by omega)) kc_Mx_coreInto kl_Mx_49 km_Mx_coreInto kv_Mx_coreInto ki_Mx (by decide +kernel) ⟨rfl, rfl, Nat.le_of_ble_eq_true rfl, Nat.le_of_ble_eq_true rfl⟩ hl.1 rfl rfl (Nat.le_of_ble_eq_true rfl) ⟨Nat.le_refl _, Nat.le_refl _⟩ d_Mx_streamOf_57 ?_
        intro ov ev7 H locs hp h
        rw [hp.1]
        refine W.eq (g2 := F0 m 60 ls []) rfl ?_
        have o7 : ev7 = (va_up (va_up (va_up ev6 7 (eI G 16 (LAY (MIXB K X) (PLC X k)))) 8 (eI G 16 (RND (MIXB K X) (PLC X k)))) 11 (eB G 128 (bs (fil (k * 64) 64 (COREB (MIXB K X) (PLC X k)) (fil 0 (64 * k) (STRB K X) S))))) := hp.2
        have t7_7 : ev7 7 = eI G 16 (LAY (MIXB K X) (PLC X k)) := by rw [o7, va_up_ne _ _ (by decide), va_up_ne _ _ (by decide), va_up_self]
        have t7_8 : ev7 8 = eI G 16 (RND (MIXB K X) (PLC X k)) := by rw [o7, va_up_ne _ _ (by decide), va_up_self]
        have t7_11 : ev7 11 = eB G 128 (bs (fil (k * 64) 64 (COREB (MIXB K X) (PLC X k)) (fil 0 (64 * k) (STRB K X) S))) := by rw [o7, va_up_self]
        have t7_9 := (show ev7 9 = ev6 9 by rw [o7, va_up_ne _ _ (by decide), va_up_ne _ _ (by decide), va_up_ne _ _ (by decide)]).trans t6_9
        have t7_10 := (show ev7 10 = ev6 10 by rw [o7, va_up_ne _ _ (by decide), va_up_ne _ _ (by decide), va_up_ne _ _ (by decide)]).trans t6_10
        have t7_qx := (show ev7 qx = ev6 qx by rw [o7, va_up_ne _ _ (by omega), va_up_ne _ _ (by omega), va_up_ne _ _ (by omega)]).trans t6_qx
        have t7_6 := (show ev7 6 = ev6 6 by rw [o7, va_up_ne _ _ (by decide), va_up_ne _ _ (by decide), va_up_ne _ _ (by decide)]).trans t6_6
        refine lv_iinc (v := nI (k + 1)) (lv' := [(4, .int (nI (k + 1))), (0, .ref (ad 6)), (1, .ref (ad qk)), (2, .ref (ad qx)), (3, .int (nI (n)))]) hx hb d_Mx_streamOf_60 hl (k := 0) rfl (nI_add _ _) (by decide) rfl (fun ls hl => ?_)
        refine lv_goto (tgt := 26) hx hb d_Mx_streamOf_63 (by decide) ?_
        refine ih (k + 1) (by omega) k (LAY (MIXB K X) (PLC X k)) (RND (MIXB K X) (PLC X k)) ev7 H locs ls (by omega) ?_ h (lv_sub hl [0, 1, 2, 3, 4] rfl)
        rw [← str_s K X S k, Nat.zero_add]
        rw [Nat.mul_comm k 64] at o7
        rw [o7, o6, o5]
        funext j
        by_cases c0 : j = 7
        · subst c0; simp [va_up]
        by_cases c1 : j = 8
        · subst c1; simp [va_up]
        by_cases c2 : j = 10
        · subst c2; simp [va_up]
        by_cases c3 : j = 11
        · subst c3; simp [va_up]
        simp only [va_up, c0, c1, c2, c3, if_false]
  refine loop5 2 0 rfl (PP 8) (LAY K X) (RND K X) ev4 H locs ls (hP 8) ?_ h (lv_sub hl [0, 1, 2, 3, 4] rfl)
  rw [Nat.mul_zero, fil_0]
  rw [va_upi _ 7 t4_7, va_upi _ 8 t4_8, va_upi _ 10 t4_10, va_upi _ 11 t4_11]
end
section
/-! pure: what the class's Field does to rows of longs, as the machine does it -/
def sar (x : Int64) (k : Nat) : Int64 := x >>> ((nI k).toInt64 &&& 63)
def sal (x : Int64) (k : Nat) : Int64 := x <<< ((nI k).toInt64 &&& 63)
def cr1 (k : Nat) (g : Nat → Int64) : Nat → Int64 := va_up (va_up g (k + 1) (g (k + 1) + sar (g k) 26)) k (va_up g (k + 1) (g (k + 1) + sar (g k) 26) k &&& 67108863)
def cry (f : Nat → Int64) : Nat → (Nat → Int64)
  | 0 => f
  | k + 1 => cr1 k (cry f k)
def fTop (n tb : Nat) (low : Int64) (f : Nat → Int64) : Nat → Int64 :=
  let g := cry f (n - 1)
  let hi := sar (g (n - 1)) tb
  let g1 := va_up g (n - 1) (g (n - 1) - sal hi tb)
  va_up g1 0 (g1 0 + low * hi)
def mulR (x y W : Nat → Int64) (i : Nat) : Nat → (Nat → Int64)
  | 0 => W
  | j + 1 => va_up (mulR x y W i j) (i + j) (mulR x y W i j (i + j) + x i * y j)
def mulW (x y : Nat → Int64) (n : Nat) : Nat → (Nat → Int64)
  | 0 => fun _ => 0
  | i + 1 => mulR x y (mulW x y n i) i n
def wdC (x y : Nat → Int64) (n : Nat) : Nat → Int64 := cry (mulW x y n n) (n + n - 1)
def fld (n : Nat) (fold : Int64) (w : Nat → Int64) : Nat → Int64 := fun i => w i + fold * w (n + i)
def tms (n tb : Nat) (low fold : Int64) (x y : Nat → Int64) : Nat → Int64 := fTop n tb low (fld n fold (wdC x y n))
def adB (f : Nat → Int64) (v : Int64) (i : Nat) : Nat → Int64 := va_up f (8 * i / 26) (f (8 * i / 26) + sal v (8 * i % 26))
def adBs (B : Nat → Nat) (o : Nat) (f : Nat → Int64) : Nat → (Nat → Int64)
  | 0 => f
  | k + 1 => adB (adBs B o f k) (nI (B (o + k))).toInt64 k
def bitsW (n : Nat) (x : Nat → Int64) (i : Nat) : Int64 := if 8 * i / 26 + 1 < n then sar (x (8 * i / 26)) (8 * i % 26) ||| sal (x (8 * i / 26 + 1)) (26 - 8 * i % 26) else sar (x (8 * i / 26)) (8 * i % 26)
def wbB (n : Nat) (x : Nat → Int64) (i : Nat) : Nat := (bitsW n x i).toInt32.toBitVec.toNat % 256
def stl (n tb : Nat) (low : Int64) (f : Nat → Int64) : Nat → Int64 :=
  let g := fTop n tb low f
  let g1 := fTop n tb low (va_up g 0 (g 0 + low))
  cry (va_up g1 0 (g1 0 - low)) (n - 1)
/-- a row read beside the one that is written from below: the same row, or another; its place k holds what it held -/
theorem al_read {G : wG} {ev : Nat → va_E} {qt qx n k : Nat} {g T X : Nat → Int64} (hX : ev qx = eJ G n X) (hT : ev qt = eJ G n T) : ∃ X1, va_up ev qt (eJ G n (fil 0 k g T)) qx = eJ G n X1 ∧ X1 k = X k := by
  by_cases h : qx = qt
  · subst h
    rw [hX] at hT
    have hT : X = T := by
      have := Sum.inl.inj hT
      have h2 := (Prod.mk.inj this).2
      have h3 := (Prod.mk.inj h2).2
      exact Sum.inl.inj (Sum.inr.inj h3)
    refine ⟨fil 0 k g T, by rw [va_up_self], ?_⟩
    rw [fil_out (Or.inr (by omega)), hT]
  · exact ⟨X, by rw [va_up_ne _ _ h]; exact hX, rfl⟩
end
section
theorem d_Ar_fill1_0 : decode c_Ar_fill1 0 = .ok (.iconst 0, 1) := by decide +kernel
theorem d_Ar_fill1_1 : decode c_Ar_fill1 1 = .ok (.istore_n 3, 1) := by decide +kernel
theorem d_Ar_fill1_2 : decode c_Ar_fill1 2 = .ok (.aload_n 0, 1) := by decide +kernel
theorem d_Ar_fill1_3 : decode c_Ar_fill1 3 = .ok (.arraylength, 1) := by decide +kernel
theorem d_Ar_fill1_4 : decode c_Ar_fill1 4 = .ok (.istore 4, 2) := by decide +kernel
theorem d_Ar_fill1_6 : decode c_Ar_fill1 6 = .ok (.iload_n 3, 1) := by decide +kernel
theorem d_Ar_fill1_7 : decode c_Ar_fill1 7 = .ok (.iload 4, 2) := by decide +kernel
theorem d_Ar_fill1_9 : decode c_Ar_fill1 9 = .ok (.if_icmp .ge 13, 3) := by decide +kernel
theorem d_Ar_fill1_12 : decode c_Ar_fill1 12 = .ok (.aload_n 0, 1) := by decide +kernel
theorem d_Ar_fill1_13 : decode c_Ar_fill1 13 = .ok (.iload_n 3, 1) := by decide +kernel
theorem d_Ar_fill1_14 : decode c_Ar_fill1 14 = .ok (.lload_n 1, 1) := by decide +kernel
theorem d_Ar_fill1_15 : decode c_Ar_fill1 15 = .ok (.lastore, 1) := by decide +kernel
theorem d_Ar_fill1_16 : decode c_Ar_fill1 16 = .ok (.iinc 3 1, 3) := by decide +kernel
theorem d_Ar_fill1_19 : decode c_Ar_fill1 19 = .ok (.goto (-13), 3) := by decide +kernel
theorem d_Ar_fill1_22 : decode c_Ar_fill1 22 = .ok (.return_, 1) := by decide +kernel
set_option maxRecDepth 100000 in
set_option maxHeartbeats 4000000 in
/-- Arrays.fill of a row of longs -/
theorem m_Ar_fill1 (l : Launch) (G : wG) (A : Nat → Prop) (ad : Nat → Nat) (ev : Nat → va_E) (q M : Nat) (f : Nat → Int64) (v : Int64) (hq : q < 52) (hev : ev q = eJ G M f) (hM : M < 2 ^ 30) : wM l y_Ar_fill1 w_Ar_fill1 ({ frames := 0, cells := 0, slots := 0, locals := 0 }) G A 52 ad ev [.ref (ad q), .long (v)] (fun ov ev' => ov = none ∧ ev' = va_up ev q (eJ G M (fun _ => v))) := by
  refine wv_ofW (cc := c_Ar_fill1) (maxL := 5) (ret := none) (by decide) rfl (Nat.le_of_ble_eq_true rfl) ?_
  intro p e s m below meth c ls hx hb hr hml hts hown hlocks hini h hl
  have hl : lv_has ls 5 [(0, .ref (ad q)), (1, .long (v))] := hl
  refine lv_iconst (v := nI (0)) hx hb d_Ar_fill1_0 (by decide) ?_
  refine lv_istore_n (lv' := [(3, .int (nI (0))), (0, .ref (ad q)), (1, .long (v))]) hx hb d_Ar_fill1_1 rfl hl (by decide) rfl (fun ls hl => ?_)
  refine lv_aload_n hx hb d_Ar_fill1_2 rfl (lv_at hl 1 rfl) ?_
  refine wv_alenJ hx hb h q hq hev d_Ar_fill1_3 ?_
  refine lv_istore (lv' := [(4, .int (nI (M))), (3, .int (nI (0))), (0, .ref (ad q)), (1, .long (v))]) hx hb d_Ar_fill1_4 hl (by decide) rfl (fun ls hl => ?_)
  have loop1 : ∀ (d k : Nat), k + d = M →  ∀ (ev1 : Nat → va_E) (H : Heap) (locs : List Loc) (ls : Array Slot), ev1 = (va_up ev q (eJ G M (fil 0 k (fun _ => v) f))) → wT G A 52 ad ev1 s H locs → lv_has ls 5 [(3, .int (nI (k))), (4, .int (nI (M))), (0, .ref (ad q)), (1, .long (v))] → W p l e ({ frames := 0, cells := 0, slots := 0, locals := 0 }) s m ([.ref (ad q), .long (v)] : List Value).toArray below meth c H locs 0 0 (MQ below (wQc G A 52 ad (fun ov ev' => ov = none ∧ ev' = va_up ev q (eJ G M (fun _ => v)))) ([.ref (ad q), .long (v)] : List Value).toArray s 0 0 A) (F0 m 6 ls []) := by
    intro d
    induction d with
    | zero =>
      intro k hk_k  ev1 H locs ls  o1 h hl
      have t1_q : ev1 q = eJ G M (fil 0 k (fun _ => v) f) := by rw [o1, va_up_self]
      refine lv_iload_n hx hb d_Ar_fill1_6 rfl (lv_at hl 0 rfl) ?_
      refine lv_iload hx hb d_Ar_fill1_7 (lv_at hl 1 rfl) ?_
      refine lv_icmp_ge (tgt := 22) hx hb d_Ar_fill1_9 (by decide) (fun _ => ?_) (fun hc => absurd ((nI_leI (by omega) (by omega)).mpr (by omega)) hc)
      have h := wT_eqJ (g := (fun _ => v)) h q hq t1_q (fun j hj => by unfold fil; rw [if_pos (by omega)])
      obtain ⟨ev2, o2⟩ : ∃ z, z = va_up ev1 q (eJ G M (fun _ => v)) := ⟨_, rfl⟩
      rw [← o2] at h
      have t2_q : ev2 q = eJ G M (fun _ => v) := by rw [o2, va_up_self]
      refine wv_vret hx hb hr hlocks h d_Ar_fill1_22 ⟨rfl, ?_⟩
      rw [o2, o1, va_up2]
    | succ d ih =>
      intro k hk_k  ev1 H locs ls  o1 h hl
      have t1_q : ev1 q = eJ G M (fil 0 k (fun _ => v) f) := by rw [o1, va_up_self]
      refine lv_iload_n hx hb d_Ar_fill1_6 rfl (lv_at hl 0 rfl) ?_
      refine lv_iload hx hb d_Ar_fill1_7 (lv_at hl 1 rfl) ?_
      refine lv_icmp_ge (tgt := 22) hx hb d_Ar_fill1_9 (by decide) (fun hc => absurd ((nI_leI (by omega) (by omega)).mp hc) (by omega)) (fun _ => ?_)
      refine lv_aload_n hx hb d_Ar_fill1_12 rfl (lv_at hl 2 rfl) ?_
      refine lv_iload_n hx hb d_Ar_fill1_13 rfl (lv_at hl 0 rfl) ?_
      refine lv_lload_n hx hb d_Ar_fill1_14 rfl (lv_at hl 3 rfl) ?_
      refine wv_last hx hb h q hq (f := (fil 0 k (fun _ => v) f)) t1_q (k := k) rfl (by omega) (by omega) d_Ar_fill1_15 (fun H locs h => ?_)
      obtain ⟨ev2, o2⟩ : ∃ z, z = va_up ev1 q (eJ G M (va_up ((fil 0 k (fun _ => v) f)) k v)) := ⟨_, rfl⟩
      rw [← o2] at h
      have t2_q : ev2 q = eJ G M (va_up ((fil 0 k (fun _ => v) f)) k v) := by rw [o2, va_up_self]
      refine lv_iinc (v := nI (k + 1)) (lv' := [(3, .int (nI (k + 1))), (4, .int (nI (M))), (0, .ref (ad q)), (1, .long (v))]) hx hb d_Ar_fill1_16 hl (k := 0) rfl (nI_add _ _) (by decide) rfl (fun ls hl => ?_)
      refine lv_goto (tgt := 6) hx hb d_Ar_fill1_19 (by decide) ?_
      refine ih (k + 1) (by omega) ev2 H locs ls ?_ h (lv_sub hl [0, 1, 2, 3] rfl)
      rw [o2, o1, va_up2, ← fil_s 0 k (fun _ => v) f rfl, Nat.zero_add]
  exact loop1 M 0 (by omega) ev s.heap [] ls (by rw [fil_0, va_upi _ _ hev]) h (lv_sub hl [1, 0, 2, 3] rfl)
theorem d_Fd_carry_0 : decode c_Fd_carry 0 = .ok (.iconst 0, 1) := by decide +kernel
theorem d_Fd_carry_1 : decode c_Fd_carry 1 = .ok (.istore_n 1, 1) := by decide +kernel
theorem d_Fd_carry_2 : decode c_Fd_carry 2 = .ok (.iload_n 1, 1) := by decide +kernel
theorem d_Fd_carry_3 : decode c_Fd_carry 3 = .ok (.iconst 1, 1) := by decide +kernel
theorem d_Fd_carry_4 : decode c_Fd_carry 4 = .ok (.iadd, 1) := by decide +kernel
theorem d_Fd_carry_5 : decode c_Fd_carry 5 = .ok (.aload_n 0, 1) := by decide +kernel
theorem d_Fd_carry_6 : decode c_Fd_carry 6 = .ok (.arraylength, 1) := by decide +kernel
theorem d_Fd_carry_7 : decode c_Fd_carry 7 = .ok (.if_icmp .ge 32, 3) := by decide +kernel
theorem d_Fd_carry_10 : decode c_Fd_carry 10 = .ok (.aload_n 0, 1) := by decide +kernel
theorem d_Fd_carry_11 : decode c_Fd_carry 11 = .ok (.iload_n 1, 1) := by decide +kernel
theorem d_Fd_carry_12 : decode c_Fd_carry 12 = .ok (.iconst 1, 1) := by decide +kernel
theorem d_Fd_carry_13 : decode c_Fd_carry 13 = .ok (.iadd, 1) := by decide +kernel
theorem d_Fd_carry_14 : decode c_Fd_carry 14 = .ok (.dup2, 1) := by decide +kernel
theorem d_Fd_carry_15 : decode c_Fd_carry 15 = .ok (.laload, 1) := by decide +kernel
theorem d_Fd_carry_16 : decode c_Fd_carry 16 = .ok (.aload_n 0, 1) := by decide +kernel
theorem d_Fd_carry_17 : decode c_Fd_carry 17 = .ok (.iload_n 1, 1) := by decide +kernel
theorem d_Fd_carry_18 : decode c_Fd_carry 18 = .ok (.laload, 1) := by decide +kernel
theorem d_Fd_carry_19 : decode c_Fd_carry 19 = .ok (.bipush 26, 2) := by decide +kernel
theorem d_Fd_carry_21 : decode c_Fd_carry 21 = .ok (.lshr, 1) := by decide +kernel
theorem d_Fd_carry_22 : decode c_Fd_carry 22 = .ok (.ladd, 1) := by decide +kernel
theorem d_Fd_carry_23 : decode c_Fd_carry 23 = .ok (.lastore, 1) := by decide +kernel
theorem d_Fd_carry_24 : decode c_Fd_carry 24 = .ok (.aload_n 0, 1) := by decide +kernel
theorem d_Fd_carry_25 : decode c_Fd_carry 25 = .ok (.iload_n 1, 1) := by decide +kernel
theorem d_Fd_carry_26 : decode c_Fd_carry 26 = .ok (.dup2, 1) := by decide +kernel
theorem d_Fd_carry_27 : decode c_Fd_carry 27 = .ok (.laload, 1) := by decide +kernel
theorem d_Fd_carry_28 : decode c_Fd_carry 28 = .ok (.ldc2_w 50, 3) := by decide +kernel
theorem d_Fd_carry_31 : decode c_Fd_carry 31 = .ok (.land, 1) := by decide +kernel
theorem d_Fd_carry_32 : decode c_Fd_carry 32 = .ok (.lastore, 1) := by decide +kernel
theorem d_Fd_carry_33 : decode c_Fd_carry 33 = .ok (.iinc 1 1, 3) := by decide +kernel
theorem d_Fd_carry_36 : decode c_Fd_carry 36 = .ok (.goto (-34), 3) := by decide +kernel
theorem d_Fd_carry_39 : decode c_Fd_carry 39 = .ok (.return_, 1) := by decide +kernel
set_option maxRecDepth 100000 in
set_option maxHeartbeats 4000000 in
/-- the carries from limb to limb -/
theorem m_Fd_carry (l : Launch) (G : wG) (A : Nat → Prop) (ad : Nat → Nat) (ev : Nat → va_E) (q M : Nat) (f : Nat → Int64) (hq : q < 52) (hev : ev q = eJ G M f) (h1 : 1 ≤ M) (hM : M < 2 ^ 30) : wM l y_Fd_carry w_Fd_carry ({ frames := 0, cells := 0, slots := 0, locals := 0 }) G A 52 ad ev [.ref (ad q)] (fun ov ev' => ov = none ∧ ev' = va_up ev q (eJ G M (cry f (M - 1)))) := by
  refine wv_ofW (cc := c_Fd_carry) (maxL := 2) (ret := none) (by decide) rfl (Nat.le_of_ble_eq_true rfl) ?_
  intro p e s m below meth c ls hx hb hr hml hts hown hlocks hini h hl
  have hl : lv_has ls 2 [(0, .ref (ad q))] := hl
  refine lv_iconst (v := nI (0)) hx hb d_Fd_carry_0 (by decide) ?_
  refine lv_istore_n (lv' := [(1, .int (nI (0))), (0, .ref (ad q))]) hx hb d_Fd_carry_1 rfl hl (by decide) rfl (fun ls hl => ?_)
  have loop1 : ∀ (d k : Nat), k + d = M - 1 →  ∀ (ev1 : Nat → va_E) (H : Heap) (locs : List Loc) (ls : Array Slot), ev1 = (va_up ev q (eJ G M (cry f k))) → wT G A 52 ad ev1 s H locs → lv_has ls 2 [(1, .int (nI (k))), (0, .ref (ad q))] → W p l e ({ frames := 0, cells := 0, slots := 0, locals := 0 }) s m ([.ref (ad q)] : List Value).toArray below meth c H locs 0 0 (MQ below (wQc G A 52 ad (fun ov ev' => ov = none ∧ ev' = va_up ev q (eJ G M (cry f (M - 1))))) ([.ref (ad q)] : List Value).toArray s 0 0 A) (F0 m 2 ls []) := by
    intro d
    induction d with
    | zero =>
      intro k hk_k  ev1 H locs ls  o1 h hl
      have t1_q : ev1 q = eJ G M (cry f k) := by rw [o1, va_up_self]
      refine lv_iload_n hx hb d_Fd_carry_2 rfl (lv_at hl 0 rfl) ?_
      refine lv_iconst (v := nI (1)) hx hb d_Fd_carry_3 (by decide) ?_
      refine lv_iadd hx hb d_Fd_carry_4 ?_
      refine wv_top (nI_add _ _) ?_
      refine lv_aload_n hx hb d_Fd_carry_5 rfl (lv_at hl 1 rfl) ?_
      refine wv_alenJ hx hb h q hq t1_q d_Fd_carry_6 ?_
      refine lv_icmp_ge (tgt := 39) hx hb d_Fd_carry_7 (by decide) (fun _ => ?_) (fun hc => absurd ((nI_leI (by omega) (by omega)).mpr (by omega)) hc)
      refine wv_vret hx hb hr hlocks h d_Fd_carry_39 ⟨rfl, ?_⟩
      rw [o1, show M - 1 = k by omega]
    | succ d ih =>
      intro k hk_k  ev1 H locs ls  o1 h hl
      have t1_q : ev1 q = eJ G M (cry f k) := by rw [o1, va_up_self]
      refine lv_iload_n hx hb d_Fd_carry_2 rfl (lv_at hl 0 rfl) ?_
      refine lv_iconst (v := nI (1)) hx hb d_Fd_carry_3 (by decide) ?_
      refine lv_iadd hx hb d_Fd_carry_4 ?_
      refine wv_top (nI_add _ _) ?_
      refine lv_aload_n hx hb d_Fd_carry_5 rfl (lv_at hl 1 rfl) ?_
      refine wv_alenJ hx hb h q hq t1_q d_Fd_carry_6 ?_
      refine lv_icmp_ge (tgt := 39) hx hb d_Fd_carry_7 (by decide) (fun hc => absurd ((nI_leI (by omega) (by omega)).mp hc) (by omega)) (fun _ => ?_)
      refine lv_aload_n hx hb d_Fd_carry_10 rfl (lv_at hl 1 rfl) ?_
      refine lv_iload_n hx hb d_Fd_carry_11 rfl (lv_at hl 0 rfl) ?_
      refine lv_iconst (v := nI (1)) hx hb d_Fd_carry_12 (by decide) ?_
      refine lv_iadd hx hb d_Fd_carry_13 ?_
      refine wv_top (nI_add _ _) ?_
      refine lv_dup2_11 hx hb d_Fd_carry_14 rfl rfl ?_
      refine wv_lald hx hb h q hq (f := (cry f k)) t1_q (k := k + 1) rfl (by omega) (by omega) d_Fd_carry_15 ?_
      refine lv_aload_n hx hb d_Fd_carry_16 rfl (lv_at hl 1 rfl) ?_
      refine lv_iload_n hx hb d_Fd_carry_17 rfl (lv_at hl 0 rfl) ?_
      refine wv_lald hx hb h q hq (f := (cry f k)) t1_q (k := k) rfl (by omega) (by omega) d_Fd_carry_18 ?_
      refine lv_bipush (v := nI (26)) hx hb d_Fd_carry_19 (by decide) ?_
      refine lv_lshr (v := sar (((cry f k)) k) 26) hx hb d_Fd_carry_21 rfl ?_
      refine lv_ladd hx hb d_Fd_carry_22 ?_
      refine wv_last hx hb h q hq (f := (cry f k)) t1_q (k := k + 1) rfl (by omega) (by omega) d_Fd_carry_23 (fun H locs h => ?_)
      obtain ⟨ev2, o2⟩ : ∃ z, z = va_up ev1 q (eJ G M (va_up ((cry f k)) (k + 1) ((((cry f k)) (k + 1)) + (sar (((cry f k)) k) 26)))) := ⟨_, rfl⟩
      rw [← o2] at h
      have t2_q : ev2 q = eJ G M (va_up ((cry f k)) (k + 1) ((((cry f k)) (k + 1)) + (sar (((cry f k)) k) 26))) := by rw [o2, va_up_self]
      refine lv_aload_n hx hb d_Fd_carry_24 rfl (lv_at hl 1 rfl) ?_
      refine lv_iload_n hx hb d_Fd_carry_25 rfl (lv_at hl 0 rfl) ?_
      refine lv_dup2_11 hx hb d_Fd_carry_26 rfl rfl ?_
      refine wv_lald hx hb h q hq (f := (va_up ((cry f k)) (k + 1) ((((cry f k)) (k + 1)) + (sar (((cry f k)) k) 26)))) t2_q (k := k) rfl (by omega) (by omega) d_Fd_carry_27 ?_
      refine lv_ldc2 (v := 67108863) hx hb hown (hts _ (List.mem_cons_of_mem _ ko_Fd_50)) d_Fd_carry_28 ?_
      refine lv_land hx hb d_Fd_carry_31 ?_
      refine wv_last hx hb h q hq (f := (va_up ((cry f k)) (k + 1) ((((cry f k)) (k + 1)) + (sar (((cry f k)) k) 26)))) t2_q (k := k) rfl (by omega) (by omega) d_Fd_carry_32 (fun H locs h => ?_)
      obtain ⟨ev3, o3⟩ : ∃ z, z = va_up ev2 q (eJ G M (va_up ((va_up ((cry f k)) (k + 1) ((((cry f k)) (k + 1)) + (sar (((cry f k)) k) 26)))) k ((((va_up ((cry f k)) (k + 1) ((((cry f k)) (k + 1)) + (sar (((cry f k)) k) 26)))) k) &&& 67108863))) := ⟨_, rfl⟩
      rw [← o3] at h
      have t3_q : ev3 q = eJ G M (va_up ((va_up ((cry f k)) (k + 1) ((((cry f k)) (k + 1)) + (sar (((cry f k)) k) 26)))) k ((((va_up ((cry f k)) (k + 1) ((((cry f k)) (k + 1)) + (sar (((cry f k)) k) 26)))) k) &&& 67108863)) := by rw [o3, va_up_self]
      refine lv_iinc (v := nI (k + 1)) (lv' := [(1, .int (nI (k + 1))), (0, .ref (ad q))]) hx hb d_Fd_carry_33 hl (k := 0) rfl (nI_add _ _) (by decide) rfl (fun ls hl => ?_)
      refine lv_goto (tgt := 2) hx hb d_Fd_carry_36 (by decide) ?_
      refine ih (k + 1) (by omega) ev3 H locs ls ?_ h (lv_sub hl [0, 1] rfl)
      rw [o3, o2, o1, va_up2, va_up2]
      rfl
  exact loop1 (M - 1) 0 (by omega) ev s.heap [] ls (va_upi _ _ hev).symm h (lv_sub hl [0, 1] rfl)
theorem d_Fd_foldTop_0 : decode c_Fd_foldTop 0 = .ok (.aload_n 1, 1) := by decide +kernel
theorem d_Fd_foldTop_1 : decode c_Fd_foldTop 1 = .ok (.invokestatic 43, 3) := by decide +kernel
theorem d_Fd_foldTop_4 : decode c_Fd_foldTop 4 = .ok (.aload_n 1, 1) := by decide +kernel
theorem d_Fd_foldTop_5 : decode c_Fd_foldTop 5 = .ok (.aload_n 0, 1) := by decide +kernel
theorem d_Fd_foldTop_6 : decode c_Fd_foldTop 6 = .ok (.getfield 9, 3) := by decide +kernel
theorem d_Fd_foldTop_9 : decode c_Fd_foldTop 9 = .ok (.iconst 1, 1) := by decide +kernel
theorem d_Fd_foldTop_10 : decode c_Fd_foldTop 10 = .ok (.isub, 1) := by decide +kernel
theorem d_Fd_foldTop_11 : decode c_Fd_foldTop 11 = .ok (.laload, 1) := by decide +kernel
theorem d_Fd_foldTop_12 : decode c_Fd_foldTop 12 = .ok (.aload_n 0, 1) := by decide +kernel
theorem d_Fd_foldTop_13 : decode c_Fd_foldTop 13 = .ok (.getfield 13, 3) := by decide +kernel
theorem d_Fd_foldTop_16 : decode c_Fd_foldTop 16 = .ok (.lshr, 1) := by decide +kernel
theorem d_Fd_foldTop_17 : decode c_Fd_foldTop 17 = .ok (.lstore_n 2, 1) := by decide +kernel
theorem d_Fd_foldTop_18 : decode c_Fd_foldTop 18 = .ok (.aload_n 1, 1) := by decide +kernel
theorem d_Fd_foldTop_19 : decode c_Fd_foldTop 19 = .ok (.aload_n 0, 1) := by decide +kernel
theorem d_Fd_foldTop_20 : decode c_Fd_foldTop 20 = .ok (.getfield 9, 3) := by decide +kernel
theorem d_Fd_foldTop_23 : decode c_Fd_foldTop 23 = .ok (.iconst 1, 1) := by decide +kernel
theorem d_Fd_foldTop_24 : decode c_Fd_foldTop 24 = .ok (.isub, 1) := by decide +kernel
theorem d_Fd_foldTop_25 : decode c_Fd_foldTop 25 = .ok (.dup2, 1) := by decide +kernel
theorem d_Fd_foldTop_26 : decode c_Fd_foldTop 26 = .ok (.laload, 1) := by decide +kernel
theorem d_Fd_foldTop_27 : decode c_Fd_foldTop 27 = .ok (.lload_n 2, 1) := by decide +kernel
theorem d_Fd_foldTop_28 : decode c_Fd_foldTop 28 = .ok (.aload_n 0, 1) := by decide +kernel
theorem d_Fd_foldTop_29 : decode c_Fd_foldTop 29 = .ok (.getfield 13, 3) := by decide +kernel
theorem d_Fd_foldTop_32 : decode c_Fd_foldTop 32 = .ok (.lshl, 1) := by decide +kernel
theorem d_Fd_foldTop_33 : decode c_Fd_foldTop 33 = .ok (.lsub, 1) := by decide +kernel
theorem d_Fd_foldTop_34 : decode c_Fd_foldTop 34 = .ok (.lastore, 1) := by decide +kernel
theorem d_Fd_foldTop_35 : decode c_Fd_foldTop 35 = .ok (.aload_n 1, 1) := by decide +kernel
theorem d_Fd_foldTop_36 : decode c_Fd_foldTop 36 = .ok (.iconst 0, 1) := by decide +kernel
theorem d_Fd_foldTop_37 : decode c_Fd_foldTop 37 = .ok (.dup2, 1) := by decide +kernel
theorem d_Fd_foldTop_38 : decode c_Fd_foldTop 38 = .ok (.laload, 1) := by decide +kernel
theorem d_Fd_foldTop_39 : decode c_Fd_foldTop 39 = .ok (.aload_n 0, 1) := by decide +kernel
theorem d_Fd_foldTop_40 : decode c_Fd_foldTop 40 = .ok (.getfield 16, 3) := by decide +kernel
theorem d_Fd_foldTop_43 : decode c_Fd_foldTop 43 = .ok (.lload_n 2, 1) := by decide +kernel
theorem d_Fd_foldTop_44 : decode c_Fd_foldTop 44 = .ok (.lmul, 1) := by decide +kernel
theorem d_Fd_foldTop_45 : decode c_Fd_foldTop 45 = .ok (.ladd, 1) := by decide +kernel
theorem d_Fd_foldTop_46 : decode c_Fd_foldTop 46 = .ok (.lastore, 1) := by decide +kernel
theorem d_Fd_foldTop_47 : decode c_Fd_foldTop 47 = .ok (.return_, 1) := by decide +kernel
set_option maxRecDepth 100000 in
set_option maxHeartbeats 4000000 in
/-- what stands above the top comes in below -/
theorem m_Fd_foldTop (l : Launch) (G : wG) (A : Nat → Prop) (ad : Nat → Nat) (ev : Nat → va_E) (qF qw nl tb : Nat) (low fold : Int64) (hqF : qF < 52) (hF : ev qF = eO 1 [.int (nI nl), .int (nI tb), .long low, .long fold, .ref (ad qw)]) (hnl : 2 ≤ nl) (hnl2 : nl < 100) (q : Nat) (f : Nat → Int64) (hq : q < 52) (hev : ev q = eJ G nl f) (nFq : qF ≠ q) : wM l y_Fd_foldTop w_Fd_foldTop ({ frames := 3, cells := 0, slots := 0, locals := 100 }) G A 52 ad ev [.ref (ad qF), .ref (ad q)] (fun ov ev' => ov = none ∧ ev' = va_up ev q (eJ G nl (fTop nl tb low f))) := by
  refine wv_ofW (cc := c_Fd_foldTop) (maxL := 4) (ret := none) (by decide) rfl (Nat.le_of_ble_eq_true rfl) ?_
  intro p e s m below meth c ls hx hb hr hml hts hown hlocks hini h hl
  have hl : lv_has ls 4 [(0, .ref (ad qF)), (1, .ref (ad q))] := hl
  refine lv_aload_n hx hb d_Fd_foldTop_0 rfl (lv_at hl 1 rfl) ?_
  refine wv_Sx (As := [.ref (ad q)]) (rest := []) (k := 1) ⟨hx, hb, hml, hown, hts⟩ h (m_Fd_carry l G A ad ev q nl f hq hev (by omega) (by omega)) kc_Fd_carry kl_Fd_43 ks_Fd_carry ki_Fd (by decide +kernel) ⟨rfl, rfl, Nat.le_of_ble_eq_true rfl, Nat.le_of_ble_eq_true rfl⟩ hl.1 rfl rfl (Nat.le_of_ble_eq_true rfl) ⟨Nat.le_refl _, Nat.le_refl _⟩ d_Fd_foldTop_1 ?_
  intro ov ev1 H locs hp h
  rw [hp.1]
  refine W.eq (g2 := F0 m 4 ls []) rfl ?_
  have o1 : ev1 = (va_up ev q (eJ G nl (cry f (nl - 1)))) := hp.2
  have t1_q : ev1 q = eJ G nl (cry f (nl - 1)) := by rw [o1, va_up_self]
  have t1_qF := (show ev1 qF = ev qF by rw [o1, va_up_ne _ _ nFq]).trans hF
  refine lv_aload_n hx hb d_Fd_foldTop_4 rfl (lv_at hl 1 rfl) ?_
  refine lv_aload_n hx hb d_Fd_foldTop_5 rfl (lv_at hl 0 rfl) ?_
  refine wv_getf hx hb h qF hqF (fs := [.int (nI (nl)), .int (nI (tb)), .long (low), .long (fold), .ref (ad qw)]) t1_qF hts (fun w hw => List.mem_cons_of_mem _ (fW_Fd w hw)) hown (ci := 1) (C := "NonceBox$Field") (T := fT_Fd) (N := 5) rfl 0 (by decide) (hts _ (List.mem_cons_of_mem _ kf_Fd_9)) rfl (v := .int (nI (nl))) rfl d_Fd_foldTop_6 ?_
  refine lv_iconst (v := nI (1)) hx hb d_Fd_foldTop_9 (by decide) ?_
  refine lv_isub hx hb d_Fd_foldTop_10 ?_
  refine wv_top (pk_sub (by omega)) ?_
  refine wv_lald hx hb h q hq (f := (cry f (nl - 1))) t1_q (k := nl - 1) rfl (by omega) (by omega) d_Fd_foldTop_11 ?_
  refine lv_aload_n hx hb d_Fd_foldTop_12 rfl (lv_at hl 0 rfl) ?_
  refine wv_getf hx hb h qF hqF (fs := [.int (nI (nl)), .int (nI (tb)), .long (low), .long (fold), .ref (ad qw)]) t1_qF hts (fun w hw => List.mem_cons_of_mem _ (fW_Fd w hw)) hown (ci := 1) (C := "NonceBox$Field") (T := fT_Fd) (N := 5) rfl 1 (by decide) (hts _ (List.mem_cons_of_mem _ kf_Fd_13)) rfl (v := .int (nI (tb))) rfl d_Fd_foldTop_13 ?_
  refine lv_lshr (v := sar (((cry f (nl - 1))) (nl - 1)) tb) hx hb d_Fd_foldTop_16 rfl ?_
  refine lv_topl (fun hi ehi => ?_)
  refine lv_lstore_n (lv' := [(2, .long (hi)), (0, .ref (ad qF)), (1, .ref (ad q))]) hx hb d_Fd_foldTop_17 rfl hl (by decide) rfl (fun ls hl => ?_)
  refine lv_aload_n hx hb d_Fd_foldTop_18 rfl (lv_at hl 2 rfl) ?_
  refine lv_aload_n hx hb d_Fd_foldTop_19 rfl (lv_at hl 1 rfl) ?_
  refine wv_getf hx hb h qF hqF (fs := [.int (nI (nl)), .int (nI (tb)), .long (low), .long (fold), .ref (ad qw)]) t1_qF hts (fun w hw => List.mem_cons_of_mem _ (fW_Fd w hw)) hown (ci := 1) (C := "NonceBox$Field") (T := fT_Fd) (N := 5) rfl 0 (by decide) (hts _ (List.mem_cons_of_mem _ kf_Fd_9)) rfl (v := .int (nI (nl))) rfl d_Fd_foldTop_20 ?_
  refine lv_iconst (v := nI (1)) hx hb d_Fd_foldTop_23 (by decide) ?_
  refine lv_isub hx hb d_Fd_foldTop_24 ?_
  refine wv_top (pk_sub (by omega)) ?_
  refine lv_dup2_11 hx hb d_Fd_foldTop_25 rfl rfl ?_
  refine wv_lald hx hb h q hq (f := (cry f (nl - 1))) t1_q (k := nl - 1) rfl (by omega) (by omega) d_Fd_foldTop_26 ?_
  refine lv_lload_n hx hb d_Fd_foldTop_27 rfl (lv_at hl 0 rfl) ?_
  refine lv_aload_n hx hb d_Fd_foldTop_28 rfl (lv_at hl 1 rfl) ?_
  refine wv_getf hx hb h qF hqF (fs := [.int (nI (nl)), .int (nI (tb)), .long (low), .long (fold), .ref (ad qw)]) t1_qF hts (fun w hw => List.mem_cons_of_mem _ (fW_Fd w hw)) hown (ci := 1) (C := "NonceBox$Field") (T := fT_Fd) (N := 5) rfl 1 (by decide) (hts _ (List.mem_cons_of_mem _ kf_Fd_13)) rfl (v := .int (nI (tb))) rfl d_Fd_foldTop_29 ?_
  refine lv_lshl (v := sal hi tb) hx hb d_Fd_foldTop_32 rfl ?_
  refine lv_lsub hx hb d_Fd_foldTop_33 ?_
  refine wv_last hx hb h q hq (f := (cry f (nl - 1))) t1_q (k := nl - 1) rfl (by omega) (by omega) d_Fd_foldTop_34 (fun H locs h => ?_)
  obtain ⟨ev2, o2⟩ : ∃ z, z = va_up ev1 q (eJ G nl (va_up ((cry f (nl - 1))) (nl - 1) ((((cry f (nl - 1))) (nl - 1)) - (sal hi tb)))) := ⟨_, rfl⟩
  rw [← o2] at h
  have t2_q : ev2 q = eJ G nl (va_up ((cry f (nl - 1))) (nl - 1) ((((cry f (nl - 1))) (nl - 1)) - (sal hi tb))) := by rw [o2, va_up_self]
  have t2_qF := (show ev2 qF = ev1 qF by rw [o2, va_up_ne _ _ nFq]).trans t1_qF
  refine lv_aload_n hx hb d_Fd_foldTop_35 rfl (lv_at hl 2 rfl) ?_
  refine lv_iconst (v := nI (0)) hx hb d_Fd_foldTop_36 (by decide) ?_
  refine lv_dup2_11 hx hb d_Fd_foldTop_37 rfl rfl ?_
  refine wv_lald hx hb h q hq (f := (va_up ((cry f (nl - 1))) (nl - 1) ((((cry f (nl - 1))) (nl - 1)) - (sal hi tb)))) t2_q (k := 0) rfl (by omega) (by omega) d_Fd_foldTop_38 ?_
  refine lv_aload_n hx hb d_Fd_foldTop_39 rfl (lv_at hl 1 rfl) ?_
  refine wv_getf hx hb h qF hqF (fs := [.int (nI (nl)), .int (nI (tb)), .long (low), .long (fold), .ref (ad qw)]) t2_qF hts (fun w hw => List.mem_cons_of_mem _ (fW_Fd w hw)) hown (ci := 1) (C := "NonceBox$Field") (T := fT_Fd) (N := 5) rfl 2 (by decide) (hts _ (List.mem_cons_of_mem _ kf_Fd_16)) rfl (v := .long (low)) rfl d_Fd_foldTop_40 ?_
  refine lv_lload_n hx hb d_Fd_foldTop_43 rfl (lv_at hl 0 rfl) ?_
  refine lv_lmul hx hb d_Fd_foldTop_44 ?_
  refine lv_ladd hx hb d_Fd_foldTop_45 ?_
  refine wv_last hx hb h q hq (f := (va_up ((cry f (nl - 1))) (nl - 1) ((((cry f (nl - 1))) (nl - 1)) - (sal hi tb)))) t2_q (k := 0) rfl (by omega) (by omega) d_Fd_foldTop_46 (fun H locs h => ?_)
  obtain ⟨ev3, o3⟩ : ∃ z, z = va_up ev2 q (eJ G nl (va_up ((va_up ((cry f (nl - 1))) (nl - 1) ((((cry f (nl - 1))) (nl - 1)) - (sal hi tb)))) 0 ((((va_up ((cry f (nl - 1))) (nl - 1) ((((cry f (nl - 1))) (nl - 1)) - (sal hi tb)))) 0) + (low * hi)))) := ⟨_, rfl⟩
  rw [← o3] at h
  have t3_q : ev3 q = eJ G nl (va_up ((va_up ((cry f (nl - 1))) (nl - 1) ((((cry f (nl - 1))) (nl - 1)) - (sal hi tb)))) 0 ((((va_up ((cry f (nl - 1))) (nl - 1) ((((cry f (nl - 1))) (nl - 1)) - (sal hi tb)))) 0) + (low * hi))) := by rw [o3, va_up_self]
  have t3_qF := (show ev3 qF = ev2 qF by rw [o3, va_up_ne _ _ nFq]).trans t2_qF
  refine wv_vret hx hb hr hlocks h d_Fd_foldTop_47 ⟨rfl, ?_⟩
  rw [o3, o2, o1, va_up2, va_up2, ehi]
  rfl
theorem d_Fd_plus_0 : decode c_Fd_plus 0 = .ok (.iconst 0, 1) := by decide +kernel
theorem d_Fd_plus_1 : decode c_Fd_plus 1 = .ok (.istore 4, 2) := by decide +kernel
theorem d_Fd_plus_3 : decode c_Fd_plus 3 = .ok (.iload 4, 2) := by decide +kernel
theorem d_Fd_plus_5 : decode c_Fd_plus 5 = .ok (.aload_n 0, 1) := by decide +kernel
theorem d_Fd_plus_6 : decode c_Fd_plus 6 = .ok (.getfield 9, 3) := by decide +kernel
theorem d_Fd_plus_9 : decode c_Fd_plus 9 = .ok (.if_icmp .ge 22, 3) := by decide +kernel
theorem d_Fd_plus_12 : decode c_Fd_plus 12 = .ok (.aload_n 3, 1) := by decide +kernel
theorem d_Fd_plus_13 : decode c_Fd_plus 13 = .ok (.iload 4, 2) := by decide +kernel
theorem d_Fd_plus_15 : decode c_Fd_plus 15 = .ok (.aload_n 1, 1) := by decide +kernel
theorem d_Fd_plus_16 : decode c_Fd_plus 16 = .ok (.iload 4, 2) := by decide +kernel
theorem d_Fd_plus_18 : decode c_Fd_plus 18 = .ok (.laload, 1) := by decide +kernel
theorem d_Fd_plus_19 : decode c_Fd_plus 19 = .ok (.aload_n 2, 1) := by decide +kernel
theorem d_Fd_plus_20 : decode c_Fd_plus 20 = .ok (.iload 4, 2) := by decide +kernel
theorem d_Fd_plus_22 : decode c_Fd_plus 22 = .ok (.laload, 1) := by decide +kernel
theorem d_Fd_plus_23 : decode c_Fd_plus 23 = .ok (.ladd, 1) := by decide +kernel
theorem d_Fd_plus_24 : decode c_Fd_plus 24 = .ok (.lastore, 1) := by decide +kernel
theorem d_Fd_plus_25 : decode c_Fd_plus 25 = .ok (.iinc 4 1, 3) := by decide +kernel
theorem d_Fd_plus_28 : decode c_Fd_plus 28 = .ok (.goto (-25), 3) := by decide +kernel
theorem d_Fd_plus_31 : decode c_Fd_plus 31 = .ok (.return_, 1) := by decide +kernel
set_option maxRecDepth 100000 in
set_option maxHeartbeats 4000000 in
/-- row + row -/
theorem m_Fd_plus (l : Launch) (G : wG) (A : Nat → Prop) (ad : Nat → Nat) (ev : Nat → va_E) (qF qw nl tb : Nat) (low fold : Int64) (hqF : qF < 52) (hF : ev qF = eO 1 [.int (nI nl), .int (nI tb), .long low, .long fold, .ref (ad qw)]) (hnl : 2 ≤ nl) (hnl2 : nl < 100) (qx qy qt : Nat) (X Y T : Nat → Int64) (hqx : qx < 52) (hqy : qy < 52) (hqt : qt < 52) (hX : ev qx = eJ G nl X) (hY : ev qy = eJ G nl Y) (hT : ev qt = eJ G nl T) (nFt : qF ≠ qt) : wM l y_Fd_plus w_Fd_plus ({ frames := 0, cells := 0, slots := 0, locals := 0 }) G A 52 ad ev [.ref (ad qF), .ref (ad qx), .ref (ad qy), .ref (ad qt)] (fun ov ev' => ov = none ∧ ev' = va_up ev qt (eJ G nl (fun i => X i + Y i))) := by
  refine wv_ofW (cc := c_Fd_plus) (maxL := 5) (ret := none) (by decide) rfl (Nat.le_of_ble_eq_true rfl) ?_
  intro p e s m below meth c ls hx hb hr hml hts hown hlocks hini h hl
  have hl : lv_has ls 5 [(0, .ref (ad qF)), (1, .ref (ad qx)), (2, .ref (ad qy)), (3, .ref (ad qt))] := hl
  refine lv_iconst (v := nI (0)) hx hb d_Fd_plus_0 (by decide) ?_
  refine lv_istore (lv' := [(4, .int (nI (0))), (0, .ref (ad qF)), (1, .ref (ad qx)), (2, .ref (ad qy)), (3, .ref (ad qt))]) hx hb d_Fd_plus_1 hl (by decide) rfl (fun ls hl => ?_)
  have loop1 : ∀ (d k : Nat), k + d = nl →  ∀ (ev1 : Nat → va_E) (H : Heap) (locs : List Loc) (ls : Array Slot), ev1 = (va_up ev qt (eJ G nl (fil 0 k (fun i => X i + Y i) T))) → wT G A 52 ad ev1 s H locs → lv_has ls 5 [(4, .int (nI (k))), (0, .ref (ad qF)), (1, .ref (ad qx)), (2, .ref (ad qy)), (3, .ref (ad qt))] → W p l e ({ frames := 0, cells := 0, slots := 0, locals := 0 }) s m ([.ref (ad qF), .ref (ad qx), .ref (ad qy), .ref (ad qt)] : List Value).toArray below meth c H locs 0 0 (MQ below (wQc G A 52 ad (fun ov ev' => ov = none ∧ ev' = va_up ev qt (eJ G nl (fun i => X i + Y i)))) ([.ref (ad qF), .ref (ad qx), .ref (ad qy), .ref (ad qt)] : List Value).toArray s 0 0 A) (F0 m 3 ls []) := by
    intro d
    induction d with
    | zero =>
      intro k hk_k  ev1 H locs ls  o1 h hl
      have t1_qt : ev1 qt = eJ G nl (fil 0 k (fun i => X i + Y i) T) := by rw [o1, va_up_self]
      have t1_qF := (show ev1 qF = ev qF by rw [o1, va_up_ne _ _ nFt]).trans hF
      refine lv_iload hx hb d_Fd_plus_3 (lv_at hl 0 rfl) ?_
      refine lv_aload_n hx hb d_Fd_plus_5 rfl (lv_at hl 1 rfl) ?_
      refine wv_getf hx hb h qF hqF (fs := [.int (nI (nl)), .int (nI (tb)), .long (low), .long (fold), .ref (ad qw)]) t1_qF hts (fun w hw => List.mem_cons_of_mem _ (fW_Fd w hw)) hown (ci := 1) (C := "NonceBox$Field") (T := fT_Fd) (N := 5) rfl 0 (by decide) (hts _ (List.mem_cons_of_mem _ kf_Fd_9)) rfl (v := .int (nI (nl))) rfl d_Fd_plus_6 ?_
      refine lv_icmp_ge (tgt := 31) hx hb d_Fd_plus_9 (by decide) (fun _ => ?_) (fun hc => absurd ((nI_leI (by omega) (by omega)).mpr (by omega)) hc)
      have h := wT_eqJ (g := (fun i => X i + Y i)) h qt hqt t1_qt (fun j hj => by unfold fil; rw [if_pos (by omega), Nat.sub_zero])
      obtain ⟨ev2, o2⟩ : ∃ z, z = va_up ev1 qt (eJ G nl (fun i => X i + Y i)) := ⟨_, rfl⟩
      rw [← o2] at h
      have t2_qt : ev2 qt = eJ G nl (fun i => X i + Y i) := by rw [o2, va_up_self]
      have t2_qF := (show ev2 qF = ev1 qF by rw [o2, va_up_ne _ _ nFt]).trans t1_qF
      refine wv_vret hx hb hr hlocks h d_Fd_plus_31 ⟨rfl, ?_⟩
      rw [o2, o1, va_up2]
    | succ d ih =>
      intro k hk_k  ev1 H locs ls  o1 h hl
      have t1_qt : ev1 qt = eJ G nl (fil 0 k (fun i => X i + Y i) T) := by rw [o1, va_up_self]
      have t1_qF := (show ev1 qF = ev qF by rw [o1, va_up_ne _ _ nFt]).trans hF
      refine lv_iload hx hb d_Fd_plus_3 (lv_at hl 0 rfl) ?_
      refine lv_aload_n hx hb d_Fd_plus_5 rfl (lv_at hl 1 rfl) ?_
      refine wv_getf hx hb h qF hqF (fs := [.int (nI (nl)), .int (nI (tb)), .long (low), .long (fold), .ref (ad qw)]) t1_qF hts (fun w hw => List.mem_cons_of_mem _ (fW_Fd w hw)) hown (ci := 1) (C := "NonceBox$Field") (T := fT_Fd) (N := 5) rfl 0 (by decide) (hts _ (List.mem_cons_of_mem _ kf_Fd_9)) rfl (v := .int (nI (nl))) rfl d_Fd_plus_6 ?_
      refine lv_icmp_ge (tgt := 31) hx hb d_Fd_plus_9 (by decide) (fun hc => absurd ((nI_leI (by omega) (by omega)).mp hc) (by omega)) (fun _ => ?_)
      obtain ⟨X1, hX1, eX1⟩ := al_read (k := k) (g := (fun i => X i + Y i)) hX hT
      rw [← o1] at hX1
      obtain ⟨Y1, hY1, eY1⟩ := al_read (k := k) (g := (fun i => X i + Y i)) hY hT
      rw [← o1] at hY1
      refine lv_aload_n hx hb d_Fd_plus_12 rfl (lv_at hl 4 rfl) ?_
      refine lv_iload hx hb d_Fd_plus_13 (lv_at hl 0 rfl) ?_
      refine lv_aload_n hx hb d_Fd_plus_15 rfl (lv_at hl 2 rfl) ?_
      refine lv_iload hx hb d_Fd_plus_16 (lv_at hl 0 rfl) ?_
      refine wv_lald hx hb h qx hqx (f := X1) hX1 (k := k) rfl (by omega) (by omega) d_Fd_plus_18 ?_
      refine wv_topl eX1 ?_
      refine lv_aload_n hx hb d_Fd_plus_19 rfl (lv_at hl 3 rfl) ?_
      refine lv_iload hx hb d_Fd_plus_20 (lv_at hl 0 rfl) ?_
      refine wv_lald hx hb h qy hqy (f := Y1) hY1 (k := k) rfl (by omega) (by omega) d_Fd_plus_22 ?_
      refine wv_topl eY1 ?_
      refine lv_ladd hx hb d_Fd_plus_23 ?_
      refine wv_last hx hb h qt hqt (f := (fil 0 k (fun i => X i + Y i) T)) t1_qt (k := k) rfl (by omega) (by omega) d_Fd_plus_24 (fun H locs h => ?_)
      obtain ⟨ev2, o2⟩ : ∃ z, z = va_up ev1 qt (eJ G nl (va_up ((fil 0 k (fun i => X i + Y i) T)) k ((X k) + (Y k)))) := ⟨_, rfl⟩
      rw [← o2] at h
      have t2_qt : ev2 qt = eJ G nl (va_up ((fil 0 k (fun i => X i + Y i) T)) k ((X k) + (Y k))) := by rw [o2, va_up_self]
      have t2_qF := (show ev2 qF = ev1 qF by rw [o2, va_up_ne _ _ nFt]).trans t1_qF
      refine lv_iinc (v := nI (k + 1)) (lv' := [(4, .int (nI (k + 1))), (0, .ref (ad qF)), (1, .ref (ad qx)), (2, .ref (ad qy)), (3, .ref (ad qt))]) hx hb d_Fd_plus_25 hl (k := 0) rfl (nI_add _ _) (by decide) rfl (fun ls hl => ?_)
      refine lv_goto (tgt := 3) hx hb d_Fd_plus_28 (by decide) ?_
      refine ih (k + 1) (by omega) ev2 H locs ls ?_ h (lv_sub hl [0, 1, 2, 3, 4] rfl)
      rw [o2, o1, va_up2, ← fil_s 0 k (fun i => X i + Y i) T rfl, Nat.zero_add]
  exact loop1 nl 0 (by omega) ev s.heap [] ls (by rw [fil_0, va_upi _ _ hT]) h (lv_sub hl [0, 1, 2, 3, 4] rfl)
theorem d_Fd_minus_0 : decode c_Fd_minus 0 = .ok (.iconst 0, 1) := by decide +kernel
theorem d_Fd_minus_1 : decode c_Fd_minus 1 = .ok (.istore 4, 2) := by decide +kernel
theorem d_Fd_minus_3 : decode c_Fd_minus 3 = .ok (.iload 4, 2) := by decide +kernel
theorem d_Fd_minus_5 : decode c_Fd_minus 5 = .ok (.aload_n 0, 1) := by decide +kernel
theorem d_Fd_minus_6 : decode c_Fd_minus 6 = .ok (.getfield 9, 3) := by decide +kernel
theorem d_Fd_minus_9 : decode c_Fd_minus 9 = .ok (.if_icmp .ge 22, 3) := by decide +kernel
theorem d_Fd_minus_12 : decode c_Fd_minus 12 = .ok (.aload_n 3, 1) := by decide +kernel
theorem d_Fd_minus_13 : decode c_Fd_minus 13 = .ok (.iload 4, 2) := by decide +kernel
theorem d_Fd_minus_15 : decode c_Fd_minus 15 = .ok (.aload_n 1, 1) := by decide +kernel
theorem d_Fd_minus_16 : decode c_Fd_minus 16 = .ok (.iload 4, 2) := by decide +kernel
theorem d_Fd_minus_18 : decode c_Fd_minus 18 = .ok (.laload, 1) := by decide +kernel
theorem d_Fd_minus_19 : decode c_Fd_minus 19 = .ok (.aload_n 2, 1) := by decide +kernel
theorem d_Fd_minus_20 : decode c_Fd_minus 20 = .ok (.iload 4, 2) := by decide +kernel
theorem d_Fd_minus_22 : decode c_Fd_minus 22 = .ok (.laload, 1) := by decide +kernel
theorem d_Fd_minus_23 : decode c_Fd_minus 23 = .ok (.lsub, 1) := by decide +kernel
theorem d_Fd_minus_24 : decode c_Fd_minus 24 = .ok (.lastore, 1) := by decide +kernel
theorem d_Fd_minus_25 : decode c_Fd_minus 25 = .ok (.iinc 4 1, 3) := by decide +kernel
theorem d_Fd_minus_28 : decode c_Fd_minus 28 = .ok (.goto (-25), 3) := by decide +kernel
theorem d_Fd_minus_31 : decode c_Fd_minus 31 = .ok (.return_, 1) := by decide +kernel
set_option maxRecDepth 100000 in
set_option maxHeartbeats 4000000 in
/-- row - row -/
theorem m_Fd_minus (l : Launch) (G : wG) (A : Nat → Prop) (ad : Nat → Nat) (ev : Nat → va_E) (qF qw nl tb : Nat) (low fold : Int64) (hqF : qF < 52) (hF : ev qF = eO 1 [.int (nI nl), .int (nI tb), .long low, .long fold, .ref (ad qw)]) (hnl : 2 ≤ nl) (hnl2 : nl < 100) (qx qy qt : Nat) (X Y T : Nat → Int64) (hqx : qx < 52) (hqy : qy < 52) (hqt : qt < 52) (hX : ev qx = eJ G nl X) (hY : ev qy = eJ G nl Y) (hT : ev qt = eJ G nl T) (nFt : qF ≠ qt) : wM l y_Fd_minus w_Fd_minus ({ frames := 0, cells := 0, slots := 0, locals := 0 }) G A 52 ad ev [.ref (ad qF), .ref (ad qx), .ref (ad qy), .ref (ad qt)] (fun ov ev' => ov = none ∧ ev' = va_up ev qt (eJ G nl (fun i => X i - Y i))) := by
  refine wv_ofW (cc := c_Fd_minus) (maxL := 5) (ret := none) (by decide) rfl (Nat.le_of_ble_eq_true rfl) ?_
  intro p e s m below meth c ls hx hb hr hml hts hown hlocks hini h hl
  have hl : lv_has ls 5 [(0, .ref (ad qF)), (1, .ref (ad qx)), (2, .ref (ad qy)), (3, .ref (ad qt))] := hl
  refine lv_iconst (v := nI (0)) hx hb d_Fd_minus_0 (by decide) ?_
  refine lv_istore (lv' := [(4, .int (nI (0))), (0, .ref (ad qF)), (1, .ref (ad qx)), (2, .ref (ad qy)), (3, .ref (ad qt))]) hx hb d_Fd_minus_1 hl (by decide) rfl (fun ls hl => ?_)
  have loop1 : ∀ (d k : Nat), k + d = nl →  ∀ (ev1 : Nat → va_E) (H : Heap) (locs : List Loc) (ls : Array Slot), ev1 = (va_up ev qt (eJ G nl (fil 0 k (fun i => X i - Y i) T))) → wT G A 52 ad ev1 s H locs → lv_has ls 5 [(4, .int (nI (k))), (0, .ref (ad qF)), (1, .ref (ad qx)), (2, .ref (ad qy)), (3, .ref (ad qt))] → W p l e ({ frames := 0, cells := 0, slots := 0, locals := 0 }) s m ([.ref (ad qF), .ref (ad qx), .ref (ad qy), .ref (ad qt)] : List Value).toArray below meth c H locs 0 0 (MQ below (wQc G A 52 ad (fun ov ev' => ov = none ∧ ev' = va_up ev qt (eJ G nl (fun i => X i - Y i)))) ([.ref (ad qF), .ref (ad qx), .ref (ad qy), .ref (ad qt)] : List Value).toArray s 0 0 A) (F0 m 3 ls []) := by
    intro d
    induction d with
    | zero =>
      intro k hk_k  ev1 H locs ls  o1 h hl
      have t1_qt : ev1 qt = eJ G nl (fil 0 k (fun i => X i - Y i) T) := by rw [o1, va_up_self]
      have t1_qF := (show ev1 qF = ev qF by rw [o1, va_up_ne _ _ nFt]).trans hF
      refine lv_iload hx hb d_Fd_minus_3 (lv_at hl 0 rfl) ?_
      refine lv_aload_n hx hb d_Fd_minus_5 rfl (lv_at hl 1 rfl) ?_
      refine wv_getf hx hb h qF hqF (fs := [.int (nI (nl)), .int (nI (tb)), .long (low), .long (fold), .ref (ad qw)]) t1_qF hts (fun w hw => List.mem_cons_of_mem _ (fW_Fd w hw)) hown (ci := 1) (C := "NonceBox$Field") (T := fT_Fd) (N := 5) rfl 0 (by decide) (hts _ (List.mem_cons_of_mem _ kf_Fd_9)) rfl (v := .int (nI (nl))) rfl d_Fd_minus_6 ?_
      refine lv_icmp_ge (tgt := 31) hx hb d_Fd_minus_9 (by decide) (fun _ => ?_) (fun hc => absurd ((nI_leI (by omega) (by omega)).mpr (by omega)) hc)
      have h := wT_eqJ (g := (fun i => X i - Y i)) h qt hqt t1_qt (fun j hj => by unfold fil; rw [if_pos (by omega), Nat.sub_zero])
      obtain ⟨ev2, o2⟩ : ∃ z, z = va_up ev1 qt (eJ G nl (fun i => X i - Y i)) := ⟨_, rfl⟩
      rw [← o2] at h
      have t2_qt : ev2 qt = eJ G nl (fun i => X i - Y i) := by rw [o2, va_up_self]
      have t2_qF := (show ev2 qF = ev1 qF by rw [o2, va_up_ne _ _ nFt]).trans t1_qF
      refine wv_vret hx hb hr hlocks h d_Fd_minus_31 ⟨rfl, ?_⟩
      rw [o2, o1, va_up2]
    | succ d ih =>
      intro k hk_k  ev1 H locs ls  o1 h hl
      have t1_qt : ev1 qt = eJ G nl (fil 0 k (fun i => X i - Y i) T) := by rw [o1, va_up_self]
      have t1_qF := (show ev1 qF = ev qF by rw [o1, va_up_ne _ _ nFt]).trans hF
      refine lv_iload hx hb d_Fd_minus_3 (lv_at hl 0 rfl) ?_
      refine lv_aload_n hx hb d_Fd_minus_5 rfl (lv_at hl 1 rfl) ?_
      refine wv_getf hx hb h qF hqF (fs := [.int (nI (nl)), .int (nI (tb)), .long (low), .long (fold), .ref (ad qw)]) t1_qF hts (fun w hw => List.mem_cons_of_mem _ (fW_Fd w hw)) hown (ci := 1) (C := "NonceBox$Field") (T := fT_Fd) (N := 5) rfl 0 (by decide) (hts _ (List.mem_cons_of_mem _ kf_Fd_9)) rfl (v := .int (nI (nl))) rfl d_Fd_minus_6 ?_
      refine lv_icmp_ge (tgt := 31) hx hb d_Fd_minus_9 (by decide) (fun hc => absurd ((nI_leI (by omega) (by omega)).mp hc) (by omega)) (fun _ => ?_)
      obtain ⟨X1, hX1, eX1⟩ := al_read (k := k) (g := (fun i => X i - Y i)) hX hT
      rw [← o1] at hX1
      obtain ⟨Y1, hY1, eY1⟩ := al_read (k := k) (g := (fun i => X i - Y i)) hY hT
      rw [← o1] at hY1
      refine lv_aload_n hx hb d_Fd_minus_12 rfl (lv_at hl 4 rfl) ?_
      refine lv_iload hx hb d_Fd_minus_13 (lv_at hl 0 rfl) ?_
      refine lv_aload_n hx hb d_Fd_minus_15 rfl (lv_at hl 2 rfl) ?_
      refine lv_iload hx hb d_Fd_minus_16 (lv_at hl 0 rfl) ?_
      refine wv_lald hx hb h qx hqx (f := X1) hX1 (k := k) rfl (by omega) (by omega) d_Fd_minus_18 ?_
      refine wv_topl eX1 ?_
      refine lv_aload_n hx hb d_Fd_minus_19 rfl (lv_at hl 3 rfl) ?_
      refine lv_iload hx hb d_Fd_minus_20 (lv_at hl 0 rfl) ?_
      refine wv_lald hx hb h qy hqy (f := Y1) hY1 (k := k) rfl (by omega) (by omega) d_Fd_minus_22 ?_
      refine wv_topl eY1 ?_
      refine lv_lsub hx hb d_Fd_minus_23 ?_
      refine wv_last hx hb h qt hqt (f := (fil 0 k (fun i => X i - Y i) T)) t1_qt (k := k) rfl (by omega) (by omega) d_Fd_minus_24 (fun H locs h => ?_)
      obtain ⟨ev2, o2⟩ : ∃ z, z = va_up ev1 qt (eJ G nl (va_up ((fil 0 k (fun i => X i - Y i) T)) k ((X k) - (Y k)))) := ⟨_, rfl⟩
      rw [← o2] at h
      have t2_qt : ev2 qt = eJ G nl (va_up ((fil 0 k (fun i => X i - Y i) T)) k ((X k) - (Y k))) := by rw [o2, va_up_self]
      have t2_qF := (show ev2 qF = ev1 qF by rw [o2, va_up_ne _ _ nFt]).trans t1_qF
      refine lv_iinc (v := nI (k + 1)) (lv' := [(4, .int (nI (k + 1))), (0, .ref (ad qF)), (1, .ref (ad qx)), (2, .ref (ad qy)), (3, .ref (ad qt))]) hx hb d_Fd_minus_25 hl (k := 0) rfl (nI_add _ _) (by decide) rfl (fun ls hl => ?_)
      refine lv_goto (tgt := 3) hx hb d_Fd_minus_28 (by decide) ?_
      refine ih (k + 1) (by omega) ev2 H locs ls ?_ h (lv_sub hl [0, 1, 2, 3, 4] rfl)
      rw [o2, o1, va_up2, ← fil_s 0 k (fun i => X i - Y i) T rfl, Nat.zero_add]
  exact loop1 nl 0 (by omega) ev s.heap [] ls (by rw [fil_0, va_upi _ _ hT]) h (lv_sub hl [0, 1, 2, 3, 4] rfl)
theorem d_Fd_scale_0 : decode c_Fd_scale 0 = .ok (.iconst 0, 1) := by decide +kernel
theorem d_Fd_scale_1 : decode c_Fd_scale 1 = .ok (.istore 4, 2) := by decide +kernel
theorem d_Fd_scale_3 : decode c_Fd_scale 3 = .ok (.iload 4, 2) := by decide +kernel
theorem d_Fd_scale_5 : decode c_Fd_scale 5 = .ok (.aload_n 0, 1) := by decide +kernel
theorem d_Fd_scale_6 : decode c_Fd_scale 6 = .ok (.getfield 9, 3) := by decide +kernel
theorem d_Fd_scale_9 : decode c_Fd_scale 9 = .ok (.if_icmp .ge 20, 3) := by decide +kernel
theorem d_Fd_scale_12 : decode c_Fd_scale 12 = .ok (.aload_n 3, 1) := by decide +kernel
theorem d_Fd_scale_13 : decode c_Fd_scale 13 = .ok (.iload 4, 2) := by decide +kernel
theorem d_Fd_scale_15 : decode c_Fd_scale 15 = .ok (.aload_n 1, 1) := by decide +kernel
theorem d_Fd_scale_16 : decode c_Fd_scale 16 = .ok (.iload 4, 2) := by decide +kernel
theorem d_Fd_scale_18 : decode c_Fd_scale 18 = .ok (.laload, 1) := by decide +kernel
theorem d_Fd_scale_19 : decode c_Fd_scale 19 = .ok (.iload_n 2, 1) := by decide +kernel
theorem d_Fd_scale_20 : decode c_Fd_scale 20 = .ok (.i2l, 1) := by decide +kernel
theorem d_Fd_scale_21 : decode c_Fd_scale 21 = .ok (.lmul, 1) := by decide +kernel
theorem d_Fd_scale_22 : decode c_Fd_scale 22 = .ok (.lastore, 1) := by decide +kernel
theorem d_Fd_scale_23 : decode c_Fd_scale 23 = .ok (.iinc 4 1, 3) := by decide +kernel
theorem d_Fd_scale_26 : decode c_Fd_scale 26 = .ok (.goto (-23), 3) := by decide +kernel
theorem d_Fd_scale_29 : decode c_Fd_scale 29 = .ok (.aload_n 0, 1) := by decide +kernel
theorem d_Fd_scale_30 : decode c_Fd_scale 30 = .ok (.aload_n 3, 1) := by decide +kernel
theorem d_Fd_scale_31 : decode c_Fd_scale 31 = .ok (.invokevirtual 39, 3) := by decide +kernel
theorem d_Fd_scale_34 : decode c_Fd_scale 34 = .ok (.return_, 1) := by decide +kernel
set_option maxRecDepth 100000 in
set_option maxHeartbeats 4000000 in
/-- a row times an int -/
theorem m_Fd_scale (l : Launch) (G : wG) (A : Nat → Prop) (ad : Nat → Nat) (ev : Nat → va_E) (qF qw nl tb : Nat) (low fold : Int64) (hqF : qF < 52) (hF : ev qF = eO 1 [.int (nI nl), .int (nI tb), .long low, .long fold, .ref (ad qw)]) (hnl : 2 ≤ nl) (hnl2 : nl < 100) (qx qt : Nat) (v : Int32) (X T : Nat → Int64) (hqx : qx < 52) (hqt : qt < 52) (hX : ev qx = eJ G nl X) (hT : ev qt = eJ G nl T) (nFt : qF ≠ qt) : wM l y_Fd_scale w_Fd_scale ({ frames := 6, cells := 0, slots := 0, locals := 200 }) G A 52 ad ev [.ref (ad qF), .ref (ad qx), .int (v), .ref (ad qt)] (fun ov ev' => ov = none ∧ ev' = va_up ev qt (eJ G nl (fTop nl tb low (fun i => X i * v.toInt64)))) := by
  refine wv_ofW (cc := c_Fd_scale) (maxL := 5) (ret := none) (by decide) rfl (Nat.le_of_ble_eq_true rfl) ?_
  intro p e s m below meth c ls hx hb hr hml hts hown hlocks hini h hl
  have hl : lv_has ls 5 [(0, .ref (ad qF)), (1, .ref (ad qx)), (2, .int (v)), (3, .ref (ad qt))] := hl
  refine lv_iconst (v := nI (0)) hx hb d_Fd_scale_0 (by decide) ?_
  refine lv_istore (lv' := [(4, .int (nI (0))), (0, .ref (ad qF)), (1, .ref (ad qx)), (2, .int (v)), (3, .ref (ad qt))]) hx hb d_Fd_scale_1 hl (by decide) rfl (fun ls hl => ?_)
  have loop1 : ∀ (d k : Nat), k + d = nl →  ∀ (ev1 : Nat → va_E) (H : Heap) (locs : List Loc) (ls : Array Slot), ev1 = (va_up ev qt (eJ G nl (fil 0 k (fun i => X i * v.toInt64) T))) → wT G A 52 ad ev1 s H locs → lv_has ls 5 [(4, .int (nI (k))), (0, .ref (ad qF)), (1, .ref (ad qx)), (2, .int (v)), (3, .ref (ad qt))] → W p l e ({ frames := 6, cells := 0, slots := 0, locals := 200 }) s m ([.ref (ad qF), .ref (ad qx), .int (v), .ref (ad qt)] : List Value).toArray below meth c H locs 0 0 (MQ below (wQc G A 52 ad (fun ov ev' => ov = none ∧ ev' = va_up ev qt (eJ G nl (fTop nl tb low (fun i => X i * v.toInt64))))) ([.ref (ad qF), .ref (ad qx), .int (v), .ref (ad qt)] : List Value).toArray s 0 0 A) (F0 m 3 ls []) := by
    intro d
    induction d with
    | zero =>
      intro k hk_k  ev1 H locs ls  o1 h hl
      have t1_qt : ev1 qt = eJ G nl (fil 0 k (fun i => X i * v.toInt64) T) := by rw [o1, va_up_self]
      have t1_qF := (show ev1 qF = ev qF by rw [o1, va_up_ne _ _ nFt]).trans hF
      refine lv_iload hx hb d_Fd_scale_3 (lv_at hl 0 rfl) ?_
      refine lv_aload_n hx hb d_Fd_scale_5 rfl (lv_at hl 1 rfl) ?_
      refine wv_getf hx hb h qF hqF (fs := [.int (nI (nl)), .int (nI (tb)), .long (low), .long (fold), .ref (ad qw)]) t1_qF hts (fun w hw => List.mem_cons_of_mem _ (fW_Fd w hw)) hown (ci := 1) (C := "NonceBox$Field") (T := fT_Fd) (N := 5) rfl 0 (by decide) (hts _ (List.mem_cons_of_mem _ kf_Fd_9)) rfl (v := .int (nI (nl))) rfl d_Fd_scale_6 ?_
      refine lv_icmp_ge (tgt := 29) hx hb d_Fd_scale_9 (by decide) (fun _ => ?_) (fun hc => absurd ((nI_leI (by omega) (by omega)).mpr (by omega)) hc)
      have h := wT_eqJ (g := (fun i => X i * v.toInt64)) h qt hqt t1_qt (fun j hj => by unfold fil; rw [if_pos (by omega), Nat.sub_zero])
      obtain ⟨ev2, o2⟩ : ∃ z, z = va_up ev1 qt (eJ G nl (fun i => X i * v.toInt64)) := ⟨_, rfl⟩
      rw [← o2] at h
      have t2_qt : ev2 qt = eJ G nl (fun i => X i * v.toInt64) := by rw [o2, va_up_self]
      have t2_qF := (show ev2 qF = ev1 qF by rw [o2, va_up_ne _ _ nFt]).trans t1_qF
      refine lv_aload_n hx hb d_Fd_scale_29 rfl (lv_at hl 1 rfl) ?_
      refine lv_aload_n hx hb d_Fd_scale_30 rfl (lv_at hl 4 rfl) ?_
      refine wv_V (As := [.ref (ad qt)]) (rest := []) (k := 1) ⟨hx, hb, hml, hown, hts⟩ h qF hqF (C := "NonceBox$Field") t2_qF rfl (m_Fd_foldTop l G A ad ev2 qF qw nl tb low fold hqF t2_qF hnl hnl2 qt (fun i => X i * v.toInt64) hqt t2_qt nFt) kc_Fd_foldTop kl_Fd_39 km_Fd_foldTop kv_Fd_foldTop ki_Fd (by decide +kernel) ⟨rfl, rfl, Nat.le_of_ble_eq_true rfl, Nat.le_of_ble_eq_true rfl⟩ hl.1 rfl rfl (Nat.le_of_ble_eq_true rfl) ⟨Nat.le_refl _, Nat.le_refl _⟩ d_Fd_scale_31 ?_
      intro ov ev3 H locs hp h
      rw [hp.1]
      refine W.eq (g2 := F0 m 34 ls []) rfl ?_
      have o3 : ev3 = (va_up ev2 qt (eJ G nl (fTop nl tb low (fun i => X i * v.toInt64)))) := hp.2
      have t3_qt : ev3 qt = eJ G nl (fTop nl tb low (fun i => X i * v.toInt64)) := by rw [o3, va_up_self]
      have t3_qF := (show ev3 qF = ev2 qF by rw [o3, va_up_ne _ _ nFt]).trans t2_qF
      refine wv_vret hx hb hr hlocks h d_Fd_scale_34 ⟨rfl, ?_⟩
      rw [o3, o2, o1, va_up2, va_up2]
    | succ d ih =>
      intro k hk_k  ev1 H locs ls  o1 h hl
      have t1_qt : ev1 qt = eJ G nl (fil 0 k (fun i => X i * v.toInt64) T) := by rw [o1, va_up_self]
      have t1_qF := (show ev1 qF = ev qF by rw [o1, va_up_ne _ _ nFt]).trans hF
      refine lv_iload hx hb d_Fd_scale_3 (lv_at hl 0 rfl) ?_
      refine lv_aload_n hx hb d_Fd_scale_5 rfl (lv_at hl 1 rfl) ?_
      refine wv_getf hx hb h qF hqF (fs := [.int (nI (nl)), .int (nI (tb)), .long (low), .long (fold), .ref (ad qw)]) t1_qF hts (fun w hw => List.mem_cons_of_mem _ (fW_Fd w hw)) hown (ci := 1) (C := "NonceBox$Field") (T := fT_Fd) (N := 5) rfl 0 (by decide) (hts _ (List.mem_cons_of_mem _ kf_Fd_9)) rfl (v := .int (nI (nl))) rfl d_Fd_scale_6 ?_
      refine lv_icmp_ge (tgt := 29) hx hb d_Fd_scale_9 (by decide) (fun hc => absurd ((nI_leI (by omega) (by omega)).mp hc) (by omega)) (fun _ => ?_)
      obtain ⟨X1, hX1, eX1⟩ := al_read (k := k) (g := (fun i => X i * v.toInt64)) hX hT
      rw [← o1] at hX1
      refine lv_aload_n hx hb d_Fd_scale_12 rfl (lv_at hl 4 rfl) ?_
      refine lv_iload hx hb d_Fd_scale_13 (lv_at hl 0 rfl) ?_
      refine lv_aload_n hx hb d_Fd_scale_15 rfl (lv_at hl 2 rfl) ?_
      refine lv_iload hx hb d_Fd_scale_16 (lv_at hl 0 rfl) ?_
      refine wv_lald hx hb h qx hqx (f := X1) hX1 (k := k) rfl (by omega) (by omega) d_Fd_scale_18 ?_
      refine wv_topl eX1 ?_
      refine lv_iload_n hx hb d_Fd_scale_19 rfl (lv_at hl 3 rfl) ?_
      refine lv_i2l hx hb d_Fd_scale_20 rfl ?_
      refine lv_lmul hx hb d_Fd_scale_21 ?_
      refine wv_last hx hb h qt hqt (f := (fil 0 k (fun i => X i * v.toInt64) T)) t1_qt (k := k) rfl (by omega) (by omega) d_Fd_scale_22 (fun H locs h => ?_)
      obtain ⟨ev2, o2⟩ : ∃ z, z = va_up ev1 qt (eJ G nl (va_up ((fil 0 k (fun i => X i * v.toInt64) T)) k ((X k) * v.toInt64))) := ⟨_, rfl⟩
      rw [← o2] at h
      have t2_qt : ev2 qt = eJ G nl (va_up ((fil 0 k (fun i => X i * v.toInt64) T)) k ((X k) * v.toInt64)) := by rw [o2, va_up_self]
      have t2_qF := (show ev2 qF = ev1 qF by rw [o2, va_up_ne _ _ nFt]).trans t1_qF
      refine lv_iinc (v := nI (k + 1)) (lv' := [(4, .int (nI (k + 1))), (0, .ref (ad qF)), (1, .ref (ad qx)), (2, .int (v)), (3, .ref (ad qt))]) hx hb d_Fd_scale_23 hl (k := 0) rfl (nI_add _ _) (by decide) rfl (fun ls hl => ?_)
      refine lv_goto (tgt := 3) hx hb d_Fd_scale_26 (by decide) ?_
      refine ih (k + 1) (by omega) ev2 H locs ls ?_ h (lv_sub hl [0, 1, 2, 3, 4] rfl)
      rw [o2, o1, va_up2, ← fil_s 0 k (fun i => X i * v.toInt64) T rfl, Nat.zero_add]
  exact loop1 nl 0 (by omega) ev s.heap [] ls (by rw [fil_0, va_upi _ _ hT]) h (lv_sub hl [0, 1, 2, 3, 4] rfl)
theorem d_Fd_setTo_0 : decode c_Fd_setTo 0 = .ok (.aload_n 1, 1) := by decide +kernel
theorem d_Fd_setTo_1 : decode c_Fd_setTo 1 = .ok (.lconst 0, 1) := by decide +kernel
theorem d_Fd_setTo_2 : decode c_Fd_setTo 2 = .ok (.invokestatic 27, 3) := by decide +kernel
theorem d_Fd_setTo_5 : decode c_Fd_setTo 5 = .ok (.aload_n 1, 1) := by decide +kernel
theorem d_Fd_setTo_6 : decode c_Fd_setTo 6 = .ok (.iconst 0, 1) := by decide +kernel
theorem d_Fd_setTo_7 : decode c_Fd_setTo 7 = .ok (.iload_n 2, 1) := by decide +kernel
theorem d_Fd_setTo_8 : decode c_Fd_setTo 8 = .ok (.i2l, 1) := by decide +kernel
theorem d_Fd_setTo_9 : decode c_Fd_setTo 9 = .ok (.lastore, 1) := by decide +kernel
theorem d_Fd_setTo_10 : decode c_Fd_setTo 10 = .ok (.return_, 1) := by decide +kernel
set_option maxRecDepth 100000 in
set_option maxHeartbeats 4000000 in
/-- a row set to an int -/
theorem m_Fd_setTo (l : Launch) (G : wG) (A : Nat → Prop) (ad : Nat → Nat) (ev : Nat → va_E) (qF q M : Nat) (f : Nat → Int64) (v : Int32) (hq : q < 52) (hev : ev q = eJ G M f) (h1 : 1 ≤ M) (hM : M < 2 ^ 30) : wM l y_Fd_setTo w_Fd_setTo ({ frames := 3, cells := 0, slots := 0, locals := 100 }) G A 52 ad ev [.ref (ad qF), .ref (ad q), .int (v)] (fun ov ev' => ov = none ∧ ev' = va_up ev q (eJ G M (va_up (fun _ => 0) 0 v.toInt64))) := by
  refine wv_ofW (cc := c_Fd_setTo) (maxL := 3) (ret := none) (by decide) rfl (Nat.le_of_ble_eq_true rfl) ?_
  intro p e s m below meth c ls hx hb hr hml hts hown hlocks hini h hl
  have hl : lv_has ls 3 [(0, .ref (ad qF)), (1, .ref (ad q)), (2, .int (v))] := hl
  refine lv_aload_n hx hb d_Fd_setTo_0 rfl (lv_at hl 1 rfl) ?_
  refine lv_lconst (v := 0) hx hb d_Fd_setTo_1 (by decide) ?_
  refine wv_Sx (As := [.ref (ad q), .long (0)]) (rest := []) (k := 2) ⟨hx, hb, hml, hown, hts⟩ h (m_Ar_fill1 l G A ad ev q M f 0 hq hev hM) kc_Ar_fill1 kl_Fd_27 ks_Ar_fill1 ki_Ar (by decide +kernel) ⟨rfl, rfl, Nat.le_of_ble_eq_true rfl, Nat.le_of_ble_eq_true rfl⟩ hl.1 rfl rfl (Nat.le_of_ble_eq_true rfl) ⟨Nat.le_refl _, Nat.le_refl _⟩ d_Fd_setTo_2 ?_
  intro ov ev1 H locs hp h
  rw [hp.1]
  refine W.eq (g2 := F0 m 5 ls []) rfl ?_
  have o1 : ev1 = (va_up ev q (eJ G M (fun _ => 0))) := hp.2
  have t1_q : ev1 q = eJ G M (fun _ => 0) := by rw [o1, va_up_self]
  refine lv_aload_n hx hb d_Fd_setTo_5 rfl (lv_at hl 1 rfl) ?_
  refine lv_iconst (v := nI (0)) hx hb d_Fd_setTo_6 (by decide) ?_
  refine lv_iload_n hx hb d_Fd_setTo_7 rfl (lv_at hl 2 rfl) ?_
  refine lv_i2l hx hb d_Fd_setTo_8 rfl ?_
  refine wv_last hx hb h q hq (f := (fun _ => 0)) t1_q (k := 0) rfl (by omega) (by omega) d_Fd_setTo_9 (fun H locs h => ?_)
  obtain ⟨ev2, o2⟩ : ∃ z, z = va_up ev1 q (eJ G M (va_up ((fun _ => 0)) 0 v.toInt64)) := ⟨_, rfl⟩
  rw [← o2] at h
  have t2_q : ev2 q = eJ G M (va_up ((fun _ => 0)) 0 v.toInt64) := by rw [o2, va_up_self]
  refine wv_vret hx hb hr hlocks h d_Fd_setTo_10 ⟨rfl, ?_⟩
  rw [o2, o1, va_up2]
theorem d_Fd_copy_0 : decode c_Fd_copy 0 = .ok (.aload_n 1, 1) := by decide +kernel
theorem d_Fd_copy_1 : decode c_Fd_copy 1 = .ok (.iconst 0, 1) := by decide +kernel
theorem d_Fd_copy_2 : decode c_Fd_copy 2 = .ok (.aload_n 2, 1) := by decide +kernel
theorem d_Fd_copy_3 : decode c_Fd_copy 3 = .ok (.iconst 0, 1) := by decide +kernel
theorem d_Fd_copy_4 : decode c_Fd_copy 4 = .ok (.aload_n 0, 1) := by decide +kernel
theorem d_Fd_copy_5 : decode c_Fd_copy 5 = .ok (.getfield 9, 3) := by decide +kernel
theorem d_Fd_copy_8 : decode c_Fd_copy 8 = .ok (.invokestatic 33, 3) := by decide +kernel
theorem d_Fd_copy_11 : decode c_Fd_copy 11 = .ok (.return_, 1) := by decide +kernel
set_option maxRecDepth 100000 in
set_option maxHeartbeats 4000000 in
/-- a row copied -/
theorem m_Fd_copy (l : Launch) (G : wG) (A : Nat → Prop) (ad : Nat → Nat) (ev : Nat → va_E) (qF qw nl tb : Nat) (low fold : Int64) (hqF : qF < 52) (hF : ev qF = eO 1 [.int (nI nl), .int (nI tb), .long low, .long fold, .ref (ad qw)]) (hnl : 2 ≤ nl) (hnl2 : nl < 100) (qx qt : Nat) (X T : Nat → Int64) (hqx : qx < 52) (hqt : qt < 52) (hX : ev qx = eJ G nl X) (hT : ev qt = eJ G nl T) (nxt : qx ≠ qt) (nFt : qF ≠ qt) : wM l y_Fd_copy w_Fd_copy ({ frames := 3, cells := 0, slots := 0, locals := 100 }) G A 52 ad ev [.ref (ad qF), .ref (ad qx), .ref (ad qt)] (fun ov ev' => ov = none ∧ ev' = va_up ev qt (eJ G nl X)) := by
  refine wv_ofW (cc := c_Fd_copy) (maxL := 3) (ret := none) (by decide) rfl (Nat.le_of_ble_eq_true rfl) ?_
  intro p e s m below meth c ls hx hb hr hml hts hown hlocks hini h hl
  have hl : lv_has ls 3 [(0, .ref (ad qF)), (1, .ref (ad qx)), (2, .ref (ad qt))] := hl
  refine lv_aload_n hx hb d_Fd_copy_0 rfl (lv_at hl 1 rfl) ?_
  refine lv_iconst (v := nI (0)) hx hb d_Fd_copy_1 (by decide) ?_
  refine lv_aload_n hx hb d_Fd_copy_2 rfl (lv_at hl 2 rfl) ?_
  refine lv_iconst (v := nI (0)) hx hb d_Fd_copy_3 (by decide) ?_
  refine lv_aload_n hx hb d_Fd_copy_4 rfl (lv_at hl 0 rfl) ?_
  refine wv_getf hx hb h qF hqF (fs := [.int (nI (nl)), .int (nI (tb)), .long (low), .long (fold), .ref (ad qw)]) hF hts (fun w hw => List.mem_cons_of_mem _ (fW_Fd w hw)) hown (ci := 1) (C := "NonceBox$Field") (T := fT_Fd) (N := 5) rfl 0 (by decide) (hts _ (List.mem_cons_of_mem _ kf_Fd_9)) rfl (v := .int (nI (nl))) rfl d_Fd_copy_5 ?_
  refine wv_copyl hx hb (hml.trans hl.1.symm) h hown (hts _ (List.mem_cons_of_mem _ kl_Fd_33)) (hts _ (List.mem_cons_of_mem _ kn_Sy_arraycopy)) (hts _ (List.mem_cons_of_mem _ ks_Sy_arraycopy)) (hts _ (List.mem_cons_of_mem _ ki_Sy)) qx qt hqx hqt (f := X) (g := T) hX hT (a := 0) (b := 0) (d := nl) rfl rfl rfl (by omega) (by omega) (by omega) (by omega) (by decide) (by decide) d_Fd_copy_8 (fun H locs h => ?_)
  obtain ⟨ev1, o1⟩ : ∃ z, z = va_up ev qt (eJ G nl (va_cpy X T 0 0 nl)) := ⟨_, rfl⟩
  rw [← o1] at h
  have t1_qt : ev1 qt = eJ G nl (va_cpy X T 0 0 nl) := by rw [o1, va_up_self]
  have t1_qx := (show ev1 qx = ev qx by rw [o1, va_up_ne _ _ nxt]).trans hX
  have t1_qF := (show ev1 qF = ev qF by rw [o1, va_up_ne _ _ nFt]).trans hF
  have h := wT_eqJ (g := X) h qt hqt t1_qt (fun j hj => by rw [pk_cpy_in (Nat.zero_le _) (by omega), Nat.zero_add, Nat.sub_zero])
  obtain ⟨ev2, o2⟩ : ∃ z, z = va_up ev1 qt (eJ G nl X) := ⟨_, rfl⟩
  rw [← o2] at h
  have t2_qt : ev2 qt = eJ G nl X := by rw [o2, va_up_self]
  have t2_qx := (show ev2 qx = ev1 qx by rw [o2, va_up_ne _ _ nxt]).trans t1_qx
  have t2_qF := (show ev2 qF = ev1 qF by rw [o2, va_up_ne _ _ nFt]).trans t1_qF
  refine wv_vret hx hb hr hlocks h d_Fd_copy_11 ⟨rfl, ?_⟩
  rw [o2, o1, va_up2]
end
section
theorem d_Fd_times_0 : decode c_Fd_times 0 = .ok (.aload_n 0, 1) := by decide +kernel
theorem d_Fd_times_1 : decode c_Fd_times 1 = .ok (.getfield 23, 3) := by decide +kernel
theorem d_Fd_times_4 : decode c_Fd_times 4 = .ok (.lconst 0, 1) := by decide +kernel
theorem d_Fd_times_5 : decode c_Fd_times 5 = .ok (.invokestatic 27, 3) := by decide +kernel
theorem d_Fd_times_8 : decode c_Fd_times 8 = .ok (.iconst 0, 1) := by decide +kernel
theorem d_Fd_times_9 : decode c_Fd_times 9 = .ok (.istore 4, 2) := by decide +kernel
theorem d_Fd_times_11 : decode c_Fd_times 11 = .ok (.iload 4, 2) := by decide +kernel
theorem d_Fd_times_13 : decode c_Fd_times 13 = .ok (.aload_n 0, 1) := by decide +kernel
theorem d_Fd_times_14 : decode c_Fd_times 14 = .ok (.getfield 9, 3) := by decide +kernel
theorem d_Fd_times_17 : decode c_Fd_times 17 = .ok (.if_icmp .ge 53, 3) := by decide +kernel
theorem d_Fd_times_20 : decode c_Fd_times 20 = .ok (.aload_n 1, 1) := by decide +kernel
theorem d_Fd_times_21 : decode c_Fd_times 21 = .ok (.iload 4, 2) := by decide +kernel
theorem d_Fd_times_23 : decode c_Fd_times 23 = .ok (.laload, 1) := by decide +kernel
theorem d_Fd_times_24 : decode c_Fd_times 24 = .ok (.lstore 5, 2) := by decide +kernel
theorem d_Fd_times_26 : decode c_Fd_times 26 = .ok (.iconst 0, 1) := by decide +kernel
theorem d_Fd_times_27 : decode c_Fd_times 27 = .ok (.istore 7, 2) := by decide +kernel
theorem d_Fd_times_29 : decode c_Fd_times 29 = .ok (.iload 7, 2) := by decide +kernel
theorem d_Fd_times_31 : decode c_Fd_times 31 = .ok (.aload_n 0, 1) := by decide +kernel
theorem d_Fd_times_32 : decode c_Fd_times 32 = .ok (.getfield 9, 3) := by decide +kernel
theorem d_Fd_times_35 : decode c_Fd_times 35 = .ok (.if_icmp .ge 29, 3) := by decide +kernel
theorem d_Fd_times_38 : decode c_Fd_times 38 = .ok (.aload_n 0, 1) := by decide +kernel
theorem d_Fd_times_39 : decode c_Fd_times 39 = .ok (.getfield 23, 3) := by decide +kernel
theorem d_Fd_times_42 : decode c_Fd_times 42 = .ok (.iload 4, 2) := by decide +kernel
theorem d_Fd_times_44 : decode c_Fd_times 44 = .ok (.iload 7, 2) := by decide +kernel
theorem d_Fd_times_46 : decode c_Fd_times 46 = .ok (.iadd, 1) := by decide +kernel
theorem d_Fd_times_47 : decode c_Fd_times 47 = .ok (.dup2, 1) := by decide +kernel
theorem d_Fd_times_48 : decode c_Fd_times 48 = .ok (.laload, 1) := by decide +kernel
theorem d_Fd_times_49 : decode c_Fd_times 49 = .ok (.lload 5, 2) := by decide +kernel
theorem d_Fd_times_51 : decode c_Fd_times 51 = .ok (.aload_n 2, 1) := by decide +kernel
theorem d_Fd_times_52 : decode c_Fd_times 52 = .ok (.iload 7, 2) := by decide +kernel
theorem d_Fd_times_54 : decode c_Fd_times 54 = .ok (.laload, 1) := by decide +kernel
theorem d_Fd_times_55 : decode c_Fd_times 55 = .ok (.lmul, 1) := by decide +kernel
theorem d_Fd_times_56 : decode c_Fd_times 56 = .ok (.ladd, 1) := by decide +kernel
theorem d_Fd_times_57 : decode c_Fd_times 57 = .ok (.lastore, 1) := by decide +kernel
theorem d_Fd_times_58 : decode c_Fd_times 58 = .ok (.iinc 7 1, 3) := by decide +kernel
theorem d_Fd_times_61 : decode c_Fd_times 61 = .ok (.goto (-32), 3) := by decide +kernel
theorem d_Fd_times_64 : decode c_Fd_times 64 = .ok (.iinc 4 1, 3) := by decide +kernel
theorem d_Fd_times_67 : decode c_Fd_times 67 = .ok (.goto (-56), 3) := by decide +kernel
theorem d_Fd_times_70 : decode c_Fd_times 70 = .ok (.aload_n 0, 1) := by decide +kernel
theorem d_Fd_times_71 : decode c_Fd_times 71 = .ok (.getfield 23, 3) := by decide +kernel
theorem d_Fd_times_74 : decode c_Fd_times 74 = .ok (.invokestatic 43, 3) := by decide +kernel
theorem d_Fd_times_77 : decode c_Fd_times 77 = .ok (.iconst 0, 1) := by decide +kernel
theorem d_Fd_times_78 : decode c_Fd_times 78 = .ok (.istore 4, 2) := by decide +kernel
theorem d_Fd_times_80 : decode c_Fd_times 80 = .ok (.iload 4, 2) := by decide +kernel
theorem d_Fd_times_82 : decode c_Fd_times 82 = .ok (.aload_n 0, 1) := by decide +kernel
theorem d_Fd_times_83 : decode c_Fd_times 83 = .ok (.getfield 9, 3) := by decide +kernel
theorem d_Fd_times_86 : decode c_Fd_times 86 = .ok (.if_icmp .ge 38, 3) := by decide +kernel
theorem d_Fd_times_89 : decode c_Fd_times 89 = .ok (.aload_n 3, 1) := by decide +kernel
theorem d_Fd_times_90 : decode c_Fd_times 90 = .ok (.iload 4, 2) := by decide +kernel
theorem d_Fd_times_92 : decode c_Fd_times 92 = .ok (.aload_n 0, 1) := by decide +kernel
theorem d_Fd_times_93 : decode c_Fd_times 93 = .ok (.getfield 23, 3) := by decide +kernel
theorem d_Fd_times_96 : decode c_Fd_times 96 = .ok (.iload 4, 2) := by decide +kernel
theorem d_Fd_times_98 : decode c_Fd_times 98 = .ok (.laload, 1) := by decide +kernel
theorem d_Fd_times_99 : decode c_Fd_times 99 = .ok (.aload_n 0, 1) := by decide +kernel
theorem d_Fd_times_100 : decode c_Fd_times 100 = .ok (.getfield 20, 3) := by decide +kernel
theorem d_Fd_times_103 : decode c_Fd_times 103 = .ok (.aload_n 0, 1) := by decide +kernel
theorem d_Fd_times_104 : decode c_Fd_times 104 = .ok (.getfield 23, 3) := by decide +kernel
theorem d_Fd_times_107 : decode c_Fd_times 107 = .ok (.aload_n 0, 1) := by decide +kernel
theorem d_Fd_times_108 : decode c_Fd_times 108 = .ok (.getfield 9, 3) := by decide +kernel
theorem d_Fd_times_111 : decode c_Fd_times 111 = .ok (.iload 4, 2) := by decide +kernel
theorem d_Fd_times_113 : decode c_Fd_times 113 = .ok (.iadd, 1) := by decide +kernel
theorem d_Fd_times_114 : decode c_Fd_times 114 = .ok (.laload, 1) := by decide +kernel
theorem d_Fd_times_115 : decode c_Fd_times 115 = .ok (.lmul, 1) := by decide +kernel
theorem d_Fd_times_116 : decode c_Fd_times 116 = .ok (.ladd, 1) := by decide +kernel
theorem d_Fd_times_117 : decode c_Fd_times 117 = .ok (.lastore, 1) := by decide +kernel
theorem d_Fd_times_118 : decode c_Fd_times 118 = .ok (.iinc 4 1, 3) := by decide +kernel
theorem d_Fd_times_121 : decode c_Fd_times 121 = .ok (.goto (-41), 3) := by decide +kernel
theorem d_Fd_times_124 : decode c_Fd_times 124 = .ok (.aload_n 0, 1) := by decide +kernel
theorem d_Fd_times_125 : decode c_Fd_times 125 = .ok (.aload_n 3, 1) := by decide +kernel
theorem d_Fd_times_126 : decode c_Fd_times 126 = .ok (.invokevirtual 39, 3) := by decide +kernel
theorem d_Fd_times_129 : decode c_Fd_times 129 = .ok (.return_, 1) := by decide +kernel
set_option maxRecDepth 100000 in
set_option maxHeartbeats 4000000 in
/-- row times row, as remainders -/
theorem m_Fd_times (l : Launch) (G : wG) (A : Nat → Prop) (ad : Nat → Nat) (ev : Nat → va_E) (qF qw nl tb : Nat) (low fold : Int64) (hqF : qF < 52) (hF : ev qF = eO 1 [.int (nI nl), .int (nI tb), .long low, .long fold, .ref (ad qw)]) (hnl : 2 ≤ nl) (hnl2 : nl < 100) (qx qy qt : Nat) (X Y T W0 : Nat → Int64) (hqw : qw < 52) (hqx : qx < 52) (hqy : qy < 52) (hqt : qt < 52) (hX : ev qx = eJ G nl X) (hY : ev qy = eJ G nl Y) (hT : ev qt = eJ G nl T) (hW : ev qw = eJ G (nl + nl) W0) (nFw : qF ≠ qw) (nxw : qx ≠ qw) (nyw : qy ≠ qw) (ntw : qt ≠ qw) (nFt : qF ≠ qt) : wM l y_Fd_times w_Fd_times ({ frames := 9, cells := 0, slots := 0, locals := 300 }) G A 52 ad ev [.ref (ad qF), .ref (ad qx), .ref (ad qy), .ref (ad qt)] (fun ov ev' => ov = none ∧ ev' = va_up (va_up ev qw (eJ G (nl + nl) (wdC X Y nl))) qt (eJ G nl (tms nl tb low fold X Y))) := by
  refine wv_ofW (cc := c_Fd_times) (maxL := 8) (ret := none) (by decide) rfl (Nat.le_of_ble_eq_true rfl) ?_
  intro p e s m below meth c ls hx hb hr hml hts hown hlocks hini h hl
  have hl : lv_has ls 8 [(0, .ref (ad qF)), (1, .ref (ad qx)), (2, .ref (ad qy)), (3, .ref (ad qt))] := hl
  refine lv_aload_n hx hb d_Fd_times_0 rfl (lv_at hl 0 rfl) ?_
  refine wv_getf hx hb h qF hqF (fs := [.int (nI (nl)), .int (nI (tb)), .long (low), .long (fold), .ref (ad qw)]) hF hts (fun w hw => List.mem_cons_of_mem _ (fW_Fd w hw)) hown (ci := 1) (C := "NonceBox$Field") (T := fT_Fd) (N := 5) rfl 4 (by decide) (hts _ (List.mem_cons_of_mem _ kf_Fd_23)) rfl (v := .ref (ad qw)) rfl d_Fd_times_1 ?_
  refine lv_lconst (v := 0) hx hb d_Fd_times_4 (by decide) ?_
  refine wv_Sx (As := [.ref (ad qw), .long (0)]) (rest := []) (k := 2) ⟨hx, hb, hml, hown, hts⟩ h (m_Ar_fill1 l G A ad ev qw (nl + nl) W0 0 hqw hW (by omega)) kc_Ar_fill1 kl_Fd_27 ks_Ar_fill1 ki_Ar (by decide +kernel) ⟨rfl, rfl, Nat.le_of_ble_eq_true rfl, Nat.le_of_ble_eq_true rfl⟩ hl.1 rfl rfl (Nat.le_of_ble_eq_true rfl) ⟨Nat.le_refl _, Nat.le_refl _⟩ d_Fd_times_5 ?_
  intro ov ev1 H locs hp h
  rw [hp.1]
  refine W.eq (g2 := F0 m 8 ls []) rfl ?_
  have o1 : ev1 = (va_up ev qw (eJ G (nl + nl) (fun _ => 0))) := hp.2
  have t1_qw : ev1 qw = eJ G (nl + nl) (fun _ => 0) := by rw [o1, va_up_self]
  have t1_qx := (show ev1 qx = ev qx by rw [o1, va_up_ne _ _ nxw]).trans hX
  have t1_qy := (show ev1 qy = ev qy by rw [o1, va_up_ne _ _ nyw]).trans hY
  have t1_qt := (show ev1 qt = ev qt by rw [o1, va_up_ne _ _ ntw]).trans hT
  have t1_qF := (show ev1 qF = ev qF by rw [o1, va_up_ne _ _ nFw]).trans hF
  refine lv_iconst (v := nI (0)) hx hb d_Fd_times_8 (by decide) ?_
  refine lv_istore (lv' := [(4, .int (nI (0))), (0, .ref (ad qF)), (1, .ref (ad qx)), (2, .ref (ad qy)), (3, .ref (ad qt))]) hx hb d_Fd_times_9 hl (by decide) rfl (fun ls hl => ?_)
  have loop2 : ∀ (d k : Nat), k + d = nl →  ∀ (ev2 : Nat → va_E) (H : Heap) (locs : List Loc) (ls : Array Slot), ev2 = (va_up ev1 qw (eJ G (nl + nl) (mulW X Y nl k))) → wT G A 52 ad ev2 s H locs → lv_has ls 8 [(4, .int (nI (k))), (0, .ref (ad qF)), (1, .ref (ad qx)), (2, .ref (ad qy)), (3, .ref (ad qt))] → W p l e ({ frames := 9, cells := 0, slots := 0, locals := 300 }) s m ([.ref (ad qF), .ref (ad qx), .ref (ad qy), .ref (ad qt)] : List Value).toArray below meth c H locs 0 0 (MQ below (wQc G A 52 ad (fun ov ev' => ov = none ∧ ev' = va_up (va_up ev qw (eJ G (nl + nl) (wdC X Y nl))) qt (eJ G nl (tms nl tb low fold X Y)))) ([.ref (ad qF), .ref (ad qx), .ref (ad qy), .ref (ad qt)] : List Value).toArray s 0 0 A) (F0 m 11 ls []) := by
    intro d
    induction d with
    | zero =>
      intro k hk_k  ev2 H locs ls  o2 h hl
      have t2_qw : ev2 qw = eJ G (nl + nl) (mulW X Y nl k) := by rw [o2, va_up_self]
      have t2_qx := (show ev2 qx = ev1 qx by rw [o2, va_up_ne _ _ nxw]).trans t1_qx
      have t2_qy := (show ev2 qy = ev1 qy by rw [o2, va_up_ne _ _ nyw]).trans t1_qy
      have t2_qt := (show ev2 qt = ev1 qt by rw [o2, va_up_ne _ _ ntw]).trans t1_qt
      have t2_qF := (show ev2 qF = ev1 qF by rw [o2, va_up_ne _ _ nFw]).trans t1_qF
      refine lv_iload hx hb d_Fd_times_11 (lv_at hl 0 rfl) ?_
      refine lv_aload_n hx hb d_Fd_times_13 rfl (lv_at hl 1 rfl) ?_
      refine wv_getf hx hb h qF hqF (fs := [.int (nI (nl)), .int (nI (tb)), .long (low), .long (fold), .ref (ad qw)]) t2_qF hts (fun w hw => List.mem_cons_of_mem _ (fW_Fd w hw)) hown (ci := 1) (C := "NonceBox$Field") (T := fT_Fd) (N := 5) rfl 0 (by decide) (hts _ (List.mem_cons_of_mem _ kf_Fd_9)) rfl (v := .int (nI (nl))) rfl d_Fd_times_14 ?_
      refine lv_icmp_ge (tgt := 70) hx hb d_Fd_times_17 (by decide) (fun _ => ?_) (fun hc => absurd ((nI_leI (by omega) (by omega)).mpr (by omega)) hc)
      refine lv_aload_n hx hb d_Fd_times_70 rfl (lv_at hl 1 rfl) ?_
      refine wv_getf hx hb h qF hqF (fs := [.int (nI (nl)), .int (nI (tb)), .long (low), .long (fold), .ref (ad qw)]) t2_qF hts (fun w hw => List.mem_cons_of_mem _ (fW_Fd w hw)) hown (ci := 1) (C := "NonceBox$Field") (T := fT_Fd) (N := 5) rfl 4 (by decide) (hts _ (List.mem_cons_of_mem _ kf_Fd_23)) rfl (v := .ref (ad qw)) rfl d_Fd_times_71 ?_
      refine wv_Sx (As := [.ref (ad qw)]) (rest := []) (k := 1) ⟨hx, hb, hml, hown, hts⟩ h (m_Fd_carry l G A ad ev2 qw (nl + nl) (mulW X Y nl k) hqw t2_qw (by omega) (by omega)) kc_Fd_carry kl_Fd_43 ks_Fd_carry ki_Fd (by decide +kernel) ⟨rfl, rfl, Nat.le_of_ble_eq_true rfl, Nat.le_of_ble_eq_true rfl⟩ hl.1 rfl rfl (Nat.le_of_ble_eq_true rfl) ⟨Nat.le_refl _, Nat.le_refl _⟩ d_Fd_times_74 ?_
      intro ov ev3 H locs hp h
      rw [hp.1]
      refine W.eq (g2 := F0 m 77 ls []) rfl ?_
      have o3 : ev3 = (va_up ev2 qw (eJ G (nl + nl) (cry (mulW X Y nl k) (nl + nl - 1)))) := hp.2
      have t3_qw : ev3 qw = eJ G (nl + nl) (cry (mulW X Y nl k) (nl + nl - 1)) := by rw [o3, va_up_self]
      have t3_qx := (show ev3 qx = ev2 qx by rw [o3, va_up_ne _ _ nxw]).trans t2_qx
      have t3_qy := (show ev3 qy = ev2 qy by rw [o3, va_up_ne _ _ nyw]).trans t2_qy
      have t3_qt := (show ev3 qt = ev2 qt by rw [o3, va_up_ne _ _ ntw]).trans t2_qt
      have t3_qF := (show ev3 qF = ev2 qF by rw [o3, va_up_ne _ _ nFw]).trans t2_qF
      rw [show k = nl by omega] at o3 t3_qw
      refine lv_iconst (v := nI (0)) hx hb d_Fd_times_77 (by decide) ?_
      refine lv_istore (lv' := [(4, .int (nI (0))), (0, .ref (ad qF)), (1, .ref (ad qx)), (2, .ref (ad qy)), (3, .ref (ad qt))]) hx hb d_Fd_times_78 hl (by decide) rfl (fun ls hl => ?_)
      have loop4 : ∀ (d i : Nat), i + d = nl →  ∀ (ev4 : Nat → va_E) (H : Heap) (locs : List Loc) (ls : Array Slot), ev4 = (va_up ev3 qt (eJ G nl (fil 0 i (fld nl fold (wdC X Y nl)) T))) → wT G A 52 ad ev4 s H locs → lv_has ls 8 [(4, .int (nI (i))), (0, .ref (ad qF)), (1, .ref (ad qx)), (2, .ref (ad qy)), (3, .ref (ad qt))] → W p l e ({ frames := 9, cells := 0, slots := 0, locals := 300 }) s m ([.ref (ad qF), .ref (ad qx), .ref (ad qy), .ref (ad qt)] : List Value).toArray below meth c H locs 0 0 (MQ below (wQc G A 52 ad (fun ov ev' => ov = none ∧ ev' = va_up (va_up ev qw (eJ G (nl + nl) (wdC X Y nl))) qt (eJ G nl (tms nl tb low fold X Y)))) ([.ref (ad qF), .ref (ad qx), .ref (ad qy), .ref (ad qt)] : List Value).toArray s 0 0 A) (F0 m 80 ls []) := by
        intro d
        induction d with
        | zero =>
          intro i hk_i  ev4 H locs ls  o4 h hl
          have t4_qt : ev4 qt = eJ G nl (fil 0 i (fld nl fold (wdC X Y nl)) T) := by rw [o4, va_up_self]
          have t4_qw := (show ev4 qw = ev3 qw by rw [o4, va_up_ne _ _ (Ne.symm ntw)]).trans t3_qw
          have t4_qF := (show ev4 qF = ev3 qF by rw [o4, va_up_ne _ _ nFt]).trans t3_qF
          refine lv_iload hx hb d_Fd_times_80 (lv_at hl 0 rfl) ?_
          refine lv_aload_n hx hb d_Fd_times_82 rfl (lv_at hl 1 rfl) ?_
          refine wv_getf hx hb h qF hqF (fs := [.int (nI (nl)), .int (nI (tb)), .long (low), .long (fold), .ref (ad qw)]) t4_qF hts (fun w hw => List.mem_cons_of_mem _ (fW_Fd w hw)) hown (ci := 1) (C := "NonceBox$Field") (T := fT_Fd) (N := 5) rfl 0 (by decide) (hts _ (List.mem_cons_of_mem _ kf_Fd_9)) rfl (v := .int (nI (nl))) rfl d_Fd_times_83 ?_
          refine lv_icmp_ge (tgt := 124) hx hb d_Fd_times_86 (by decide) (fun _ => ?_) (fun hc => absurd ((nI_leI (by omega) (by omega)).mpr (by omega)) hc)
          have h := wT_eqJ (g := (fld nl fold (wdC X Y nl))) h qt hqt t4_qt (fun j hj => by unfold fil; rw [if_pos (by omega), Nat.sub_zero])
          obtain ⟨ev5, o5⟩ : ∃ z, z = va_up ev4 qt (eJ G nl (fld nl fold (wdC X Y nl))) := ⟨_, rfl⟩
          rw [← o5] at h
          have t5_qt : ev5 qt = eJ G nl (fld nl fold (wdC X Y nl)) := by rw [o5, va_up_self]
          have t5_qw := (show ev5 qw = ev4 qw by rw [o5, va_up_ne _ _ (Ne.symm ntw)]).trans t4_qw
          have t5_qF := (show ev5 qF = ev4 qF by rw [o5, va_up_ne _ _ nFt]).trans t4_qF
          refine lv_aload_n hx hb d_Fd_times_124 rfl (lv_at hl 1 rfl) ?_
          refine lv_aload_n hx hb d_Fd_times_125 rfl (lv_at hl 4 rfl) ?_
          refine wv_V (As := [.ref (ad qt)]) (rest := []) (k := 1) ⟨hx, hb, hml, hown, hts⟩ h qF hqF (C := "NonceBox$Field") t5_qF rfl (m_Fd_foldTop l G A ad ev5 qF qw nl tb low fold hqF t5_qF hnl hnl2 qt (fld nl fold (wdC X Y nl)) hqt t5_qt nFt) kc_Fd_foldTop kl_Fd_39 km_Fd_foldTop kv_Fd_foldTop ki_Fd (by decide +kernel) ⟨rfl, rfl, Nat.le_of_ble_eq_true rfl, Nat.le_of_ble_eq_true rfl⟩ hl.1 rfl rfl (Nat.le_of_ble_eq_true rfl) ⟨Nat.le_refl _, Nat.le_refl _⟩ d_Fd_times_126 ?_
          intro ov ev6 H locs hp h
          rw [hp.1]
          refine W.eq (g2 := F0 m 129 ls []) rfl ?_
          have o6 : ev6 = (va_up ev5 qt (eJ G nl (tms nl tb low fold X Y))) := hp.2
          have t6_qt : ev6 qt = eJ G nl (tms nl tb low fold X Y) := by rw [o6, va_up_self]
          have t6_qw := (show ev6 qw = ev5 qw by rw [o6, va_up_ne _ _ (Ne.symm ntw)]).trans t5_qw
          have t6_qF := (show ev6 qF = ev5 qF by rw [o6, va_up_ne _ _ nFt]).trans t5_qF
          refine wv_vret hx hb hr hlocks h d_Fd_times_129 ⟨rfl, ?_⟩
          rw [o6, o5, o4, va_up2, va_up2, o3, o2, o1, va_up2, va_up2]
          rfl
        | succ d ih =>
          intro i hk_i  ev4 H locs ls  o4 h hl
          have t4_qt : ev4 qt = eJ G nl (fil 0 i (fld nl fold (wdC X Y nl)) T) := by rw [o4, va_up_self]
          have t4_qw := (show ev4 qw = ev3 qw by rw [o4, va_up_ne _ _ (Ne.symm ntw)]).trans t3_qw
          have t4_qF := (show ev4 qF = ev3 qF by rw [o4, va_up_ne _ _ nFt]).trans t3_qF
          refine lv_iload hx hb d_Fd_times_80 (lv_at hl 0 rfl) ?_
          refine lv_aload_n hx hb d_Fd_times_82 rfl (lv_at hl 1 rfl) ?_
          refine wv_getf hx hb h qF hqF (fs := [.int (nI (nl)), .int (nI (tb)), .long (low), .long (fold), .ref (ad qw)]) t4_qF hts (fun w hw => List.mem_cons_of_mem _ (fW_Fd w hw)) hown (ci := 1) (C := "NonceBox$Field") (T := fT_Fd) (N := 5) rfl 0 (by decide) (hts _ (List.mem_cons_of_mem _ kf_Fd_9)) rfl (v := .int (nI (nl))) rfl d_Fd_times_83 ?_
          refine lv_icmp_ge (tgt := 124) hx hb d_Fd_times_86 (by decide) (fun hc => absurd ((nI_leI (by omega) (by omega)).mp hc) (by omega)) (fun _ => ?_)
          refine lv_aload_n hx hb d_Fd_times_89 rfl (lv_at hl 4 rfl) ?_
          refine lv_iload hx hb d_Fd_times_90 (lv_at hl 0 rfl) ?_
          refine lv_aload_n hx hb d_Fd_times_92 rfl (lv_at hl 1 rfl) ?_
          refine wv_getf hx hb h qF hqF (fs := [.int (nI (nl)), .int (nI (tb)), .long (low), .long (fold), .ref (ad qw)]) t4_qF hts (fun w hw => List.mem_cons_of_mem _ (fW_Fd w hw)) hown (ci := 1) (C := "NonceBox$Field") (T := fT_Fd) (N := 5) rfl 4 (by decide) (hts _ (List.mem_cons_of_mem _ kf_Fd_23)) rfl (v := .ref (ad qw)) rfl d_Fd_times_93 ?_
          refine lv_iload hx hb d_Fd_times_96 (lv_at hl 0 rfl) ?_
          refine wv_lald hx hb h qw hqw (f := (wdC X Y nl)) t4_qw (k := i) rfl (by omega) (by omega) d_Fd_times_98 ?_
          refine lv_aload_n hx hb d_Fd_times_99 rfl (lv_at hl 1 rfl) ?_
          refine wv_getf hx hb h qF hqF (fs := [.int (nI (nl)), .int (nI (tb)), .long (low), .long (fold), .ref (ad qw)]) t4_qF hts (fun w hw => List.mem_cons_of_mem _ (fW_Fd w hw)) hown (ci := 1) (C := "NonceBox$Field") (T := fT_Fd) (N := 5) rfl 3 (by decide) (hts _ (List.mem_cons_of_mem _ kf_Fd_20)) rfl (v := .long (fold)) rfl d_Fd_times_100 ?_
          refine lv_aload_n hx hb d_Fd_times_103 rfl (lv_at hl 1 rfl) ?_
          refine wv_getf hx hb h qF hqF (fs := [.int (nI (nl)), .int (nI (tb)), .long (low), .long (fold), .ref (ad qw)]) t4_qF hts (fun w hw => List.mem_cons_of_mem _ (fW_Fd w hw)) hown (ci := 1) (C := "NonceBox$Field") (T := fT_Fd) (N := 5) rfl 4 (by decide) (hts _ (List.mem_cons_of_mem _ kf_Fd_23)) rfl (v := .ref (ad qw)) rfl d_Fd_times_104 ?_
          refine lv_aload_n hx hb d_Fd_times_107 rfl (lv_at hl 1 rfl) ?_
          refine wv_getf hx hb h qF hqF (fs := [.int (nI (nl)), .int (nI (tb)), .long (low), .long (fold), .ref (ad qw)]) t4_qF hts (fun w hw => List.mem_cons_of_mem _ (fW_Fd w hw)) hown (ci := 1) (C := "NonceBox$Field") (T := fT_Fd) (N := 5) rfl 0 (by decide) (hts _ (List.mem_cons_of_mem _ kf_Fd_9)) rfl (v := .int (nI (nl))) rfl d_Fd_times_108 ?_
          refine lv_iload hx hb d_Fd_times_111 (lv_at hl 0 rfl) ?_
          refine lv_iadd hx hb d_Fd_times_113 ?_
          refine wv_top (nI_add _ _) ?_
          refine wv_lald hx hb h qw hqw (f := (wdC X Y nl)) t4_qw (k := nl + i) rfl (by omega) (by omega) d_Fd_times_114 ?_
          refine lv_lmul hx hb d_Fd_times_115 ?_
          refine lv_ladd hx hb d_Fd_times_116 ?_
          refine wv_last hx hb h qt hqt (f := (fil 0 i (fld nl fold (wdC X Y nl)) T)) t4_qt (k := i) rfl (by omega) (by omega) d_Fd_times_117 (fun H locs h => ?_)
          obtain ⟨ev5, o5⟩ : ∃ z, z = va_up ev4 qt (eJ G nl (va_up ((fil 0 i (fld nl fold (wdC X Y nl)) T)) i ((((wdC X Y nl)) i) + (fold * (((wdC X Y nl)) (nl + i)))))) := ⟨_, rfl⟩
          rw [← o5] at h
          have t5_qt : ev5 qt = eJ G nl (va_up ((fil 0 i (fld nl fold (wdC X Y nl)) T)) i ((((wdC X Y nl)) i) + (fold * (((wdC X Y nl)) (nl + i))))) := by rw [o5, va_up_self]
          have t5_qw := (show ev5 qw = ev4 qw by rw [o5, va_up_ne _ _ (Ne.symm ntw)]).trans t4_qw
          have t5_qF := (show ev5 qF = ev4 qF by rw [o5, va_up_ne _ _ nFt]).trans t4_qF
          refine lv_iinc (v := nI (i + 1)) (lv' := [(4, .int (nI (i + 1))), (0, .ref (ad qF)), (1, .ref (ad qx)), (2, .ref (ad qy)), (3, .ref (ad qt))]) hx hb d_Fd_times_118 hl (k := 0) rfl (nI_add _ _) (by decide) rfl (fun ls hl => ?_)
          refine lv_goto (tgt := 80) hx hb d_Fd_times_121 (by decide) ?_
          refine ih (i + 1) (by omega) ev5 H locs ls ?_ h (lv_sub hl [0, 1, 2, 3, 4] rfl)
          rw [o5, o4, va_up2, ← fil_s 0 i (fld nl fold (wdC X Y nl)) T rfl, Nat.zero_add]
          rfl
      exact loop4 nl 0 (by omega) ev3 H locs ls (by rw [fil_0, va_upi _ _ t3_qt]) h (lv_sub hl [0, 1, 2, 3, 4] rfl)
    | succ d ih =>
      intro k hk_k  ev2 H locs ls  o2 h hl
      have t2_qw : ev2 qw = eJ G (nl + nl) (mulW X Y nl k) := by rw [o2, va_up_self]
      have t2_qx := (show ev2 qx = ev1 qx by rw [o2, va_up_ne _ _ nxw]).trans t1_qx
      have t2_qy := (show ev2 qy = ev1 qy by rw [o2, va_up_ne _ _ nyw]).trans t1_qy
      have t2_qt := (show ev2 qt = ev1 qt by rw [o2, va_up_ne _ _ ntw]).trans t1_qt
      have t2_qF := (show ev2 qF = ev1 qF by rw [o2, va_up_ne _ _ nFw]).trans t1_qF
      refine lv_iload hx hb d_Fd_times_11 (lv_at hl 0 rfl) ?_
      refine lv_aload_n hx hb d_Fd_times_13 rfl (lv_at hl 1 rfl) ?_
      refine wv_getf hx hb h qF hqF (fs := [.int (nI (nl)), .int (nI (tb)), .long (low), .long (fold), .ref (ad qw)]) t2_qF hts (fun w hw => List.mem_cons_of_mem _ (fW_Fd w hw)) hown (ci := 1) (C := "NonceBox$Field") (T := fT_Fd) (N := 5) rfl 0 (by decide) (hts _ (List.mem_cons_of_mem _ kf_Fd_9)) rfl (v := .int (nI (nl))) rfl d_Fd_times_14 ?_
      refine lv_icmp_ge (tgt := 70) hx hb d_Fd_times_17 (by decide) (fun hc => absurd ((nI_leI (by omega) (by omega)).mp hc) (by omega)) (fun _ => ?_)
      refine lv_aload_n hx hb d_Fd_times_20 rfl (lv_at hl 2 rfl) ?_
      refine lv_iload hx hb d_Fd_times_21 (lv_at hl 0 rfl) ?_
      refine wv_lald hx hb h qx hqx (f := X) t2_qx (k := k) rfl (by omega) (by omega) d_Fd_times_23 ?_
      refine lv_lstore (lv' := [(5, .long (X k)), (4, .int (nI (k))), (0, .ref (ad qF)), (1, .ref (ad qx)), (2, .ref (ad qy)), (3, .ref (ad qt))]) hx hb d_Fd_times_24 hl (by decide) rfl (fun ls hl => ?_)
      refine lv_iconst (v := nI (0)) hx hb d_Fd_times_26 (by decide) ?_
      refine lv_istore (lv' := [(7, .int (nI (0))), (5, .long (X k)), (4, .int (nI (k))), (0, .ref (ad qF)), (1, .ref (ad qx)), (2, .ref (ad qy)), (3, .ref (ad qt))]) hx hb d_Fd_times_27 hl (by decide) rfl (fun ls hl => ?_)
      have loop3 : ∀ (d j : Nat), j + d = nl →  ∀ (ev3 : Nat → va_E) (H : Heap) (locs : List Loc) (ls : Array Slot), ev3 = (va_up ev2 qw (eJ G (nl + nl) (mulR X Y (mulW X Y nl k) k j))) → wT G A 52 ad ev3 s H locs → lv_has ls 8 [(7, .int (nI (j))), (4, .int (nI (k))), (5, .long (X k)), (0, .ref (ad qF)), (1, .ref (ad qx)), (2, .ref (ad qy)), (3, .ref (ad qt))] → W p l e ({ frames := 9, cells := 0, slots := 0, locals := 300 }) s m ([.ref (ad qF), .ref (ad qx), .ref (ad qy), .ref (ad qt)] : List Value).toArray below meth c H locs 0 0 (MQ below (wQc G A 52 ad (fun ov ev' => ov = none ∧ ev' = va_up (va_up ev qw (eJ G (nl + nl) (wdC X Y nl))) qt (eJ G nl (tms nl tb low fold X Y)))) ([.ref (ad qF), .ref (ad qx), .ref (ad qy), .ref (ad qt)] : List Value).toArray s 0 0 A) (F0 m 29 ls []) := by
        intro d
        induction d with
        | zero =>
          intro j hk_j  ev3 H locs ls  o3 h hl
          have t3_qw : ev3 qw = eJ G (nl + nl) (mulR X Y (mulW X Y nl k) k j) := by rw [o3, va_up_self]
          have t3_qx := (show ev3 qx = ev2 qx by rw [o3, va_up_ne _ _ nxw]).trans t2_qx
          have t3_qy := (show ev3 qy = ev2 qy by rw [o3, va_up_ne _ _ nyw]).trans t2_qy
          have t3_qt := (show ev3 qt = ev2 qt by rw [o3, va_up_ne _ _ ntw]).trans t2_qt
          have t3_qF := (show ev3 qF = ev2 qF by rw [o3, va_up_ne _ _ nFw]).trans t2_qF
          refine lv_iload hx hb d_Fd_times_29 (lv_at hl 0 rfl) ?_
          refine lv_aload_n hx hb d_Fd_times_31 rfl (lv_at hl 3 rfl) ?_
          refine wv_getf hx hb h qF hqF (fs := [.int (nI (nl)), .int (nI (tb)), .long (low), .long (fold), .ref (ad qw)]) t3_qF hts (fun w hw => List.mem_cons_of_mem _ (fW_Fd w hw)) hown (ci := 1) (C := "NonceBox$Field") (T := fT_Fd) (N := 5) rfl 0 (by decide) (hts _ (List.mem_cons_of_mem _ kf_Fd_9)) rfl (v := .int (nI (nl))) rfl d_Fd_times_32 ?_
          refine lv_icmp_ge (tgt := 64) hx hb d_Fd_times_35 (by decide) (fun _ => ?_) (fun hc => absurd ((nI_leI (by omega) (by omega)).mpr (by omega)) hc)
          refine lv_iinc (v := nI (k + 1)) (lv' := [(4, .int (nI (k + 1))), (7, .int (nI (j))), (5, .long (X k)), (0, .ref (ad qF)), (1, .ref (ad qx)), (2, .ref (ad qy)), (3, .ref (ad qt))]) hx hb d_Fd_times_64 hl (k := 1) rfl (nI_add _ _) (by decide) rfl (fun ls hl => ?_)
          refine lv_goto (tgt := 11) hx hb d_Fd_times_67 (by decide) ?_
          refine ih (k + 1) (by omega) ev3 H locs ls ?_ h (lv_sub hl [0, 3, 4, 5, 6] rfl)
          rw [o3, o2, va_up2, show j = nl by omega]
          rfl
        | succ d ih1 =>
          intro j hk_j  ev3 H locs ls  o3 h hl
          have t3_qw : ev3 qw = eJ G (nl + nl) (mulR X Y (mulW X Y nl k) k j) := by rw [o3, va_up_self]
          have t3_qx := (show ev3 qx = ev2 qx by rw [o3, va_up_ne _ _ nxw]).trans t2_qx
          have t3_qy := (show ev3 qy = ev2 qy by rw [o3, va_up_ne _ _ nyw]).trans t2_qy
          have t3_qt := (show ev3 qt = ev2 qt by rw [o3, va_up_ne _ _ ntw]).trans t2_qt
          have t3_qF := (show ev3 qF = ev2 qF by rw [o3, va_up_ne _ _ nFw]).trans t2_qF
          refine lv_iload hx hb d_Fd_times_29 (lv_at hl 0 rfl) ?_
          refine lv_aload_n hx hb d_Fd_times_31 rfl (lv_at hl 3 rfl) ?_
          refine wv_getf hx hb h qF hqF (fs := [.int (nI (nl)), .int (nI (tb)), .long (low), .long (fold), .ref (ad qw)]) t3_qF hts (fun w hw => List.mem_cons_of_mem _ (fW_Fd w hw)) hown (ci := 1) (C := "NonceBox$Field") (T := fT_Fd) (N := 5) rfl 0 (by decide) (hts _ (List.mem_cons_of_mem _ kf_Fd_9)) rfl (v := .int (nI (nl))) rfl d_Fd_times_32 ?_
          refine lv_icmp_ge (tgt := 64) hx hb d_Fd_times_35 (by decide) (fun hc => absurd ((nI_leI (by omega) (by omega)).mp hc) (by omega)) (fun _ => ?_)
          refine lv_aload_n hx hb d_Fd_times_38 rfl (lv_at hl 3 rfl) ?_
          refine wv_getf hx hb h qF hqF (fs := [.int (nI (nl)), .int (nI (tb)), .long (low), .long (fold), .ref (ad qw)]) t3_qF hts (fun w hw => List.mem_cons_of_mem _ (fW_Fd w hw)) hown (ci := 1) (C := "NonceBox$Field") (T := fT_Fd) (N := 5) rfl 4 (by decide) (hts _ (List.mem_cons_of_mem _ kf_Fd_23)) rfl (v := .ref (ad qw)) rfl d_Fd_times_39 ?_
          refine lv_iload hx hb d_Fd_times_42 (lv_at hl 1 rfl) ?_
          refine lv_iload hx hb d_Fd_times_44 (lv_at hl 0 rfl) ?_
          refine lv_iadd hx hb d_Fd_times_46 ?_
          refine wv_top (nI_add _ _) ?_
          refine lv_dup2_11 hx hb d_Fd_times_47 rfl rfl ?_
          refine wv_lald hx hb h qw hqw (f := (mulR X Y (mulW X Y nl k) k j)) t3_qw (k := k + j) rfl (by omega) (by omega) d_Fd_times_48 ?_
          refine lv_lload hx hb d_Fd_times_49 (lv_at hl 2 rfl) ?_
          refine lv_aload_n hx hb d_Fd_times_51 rfl (lv_at hl 5 rfl) ?_
          refine lv_iload hx hb d_Fd_times_52 (lv_at hl 0 rfl) ?_
          refine wv_lald hx hb h qy hqy (f := Y) t3_qy (k := j) rfl (by omega) (by omega) d_Fd_times_54 ?_
          refine lv_lmul hx hb d_Fd_times_55 ?_
          refine lv_ladd hx hb d_Fd_times_56 ?_
          refine wv_last hx hb h qw hqw (f := (mulR X Y (mulW X Y nl k) k j)) t3_qw (k := k + j) rfl (by omega) (by omega) d_Fd_times_57 (fun H locs h => ?_)
          obtain ⟨ev4, o4⟩ : ∃ z, z = va_up ev3 qw (eJ G (nl + nl) (va_up ((mulR X Y (mulW X Y nl k) k j)) (k + j) ((((mulR X Y (mulW X Y nl k) k j)) (k + j)) + ((X k) * (Y j))))) := ⟨_, rfl⟩
          rw [← o4] at h
          have t4_qw : ev4 qw = eJ G (nl + nl) (va_up ((mulR X Y (mulW X Y nl k) k j)) (k + j) ((((mulR X Y (mulW X Y nl k) k j)) (k + j)) + ((X k) * (Y j)))) := by rw [o4, va_up_self]
          have t4_qx := (show ev4 qx = ev3 qx by rw [o4, va_up_ne _ _ nxw]).trans t3_qx
          have t4_qy := (show ev4 qy = ev3 qy by rw [o4, va_up_ne _ _ nyw]).trans t3_qy
          have t4_qt := (show ev4 qt = ev3 qt by rw [o4, va_up_ne _ _ ntw]).trans t3_qt
          have t4_qF := (show ev4 qF = ev3 qF by rw [o4, va_up_ne _ _ nFw]).trans t3_qF
          refine lv_iinc (v := nI (j + 1)) (lv' := [(7, .int (nI (j + 1))), (4, .int (nI (k))), (5, .long (X k)), (0, .ref (ad qF)), (1, .ref (ad qx)), (2, .ref (ad qy)), (3, .ref (ad qt))]) hx hb d_Fd_times_58 hl (k := 0) rfl (nI_add _ _) (by decide) rfl (fun ls hl => ?_)
          refine lv_goto (tgt := 29) hx hb d_Fd_times_61 (by decide) ?_
          refine ih1 (j + 1) (by omega) ev4 H locs ls ?_ h (lv_sub hl [0, 1, 2, 3, 4, 5, 6] rfl)
          rw [o4, o3, va_up2]
          rfl
      exact loop3 nl 0 (by omega) ev2 H locs ls (va_upi _ _ t2_qw).symm h (lv_sub hl [0, 2, 1, 3, 4, 5, 6] rfl)
  exact loop2 nl 0 (by omega) ev1 H locs ls (va_upi _ _ t1_qw).symm h (lv_sub hl [0, 1, 2, 3, 4] rfl)
theorem d_Fd_addByte_0 : decode c_Fd_addByte 0 = .ok (.aload 4, 2) := by decide +kernel
theorem d_Fd_addByte_2 : decode c_Fd_addByte 2 = .ok (.bipush 8, 2) := by decide +kernel
theorem d_Fd_addByte_4 : decode c_Fd_addByte 4 = .ok (.iload_n 3, 1) := by decide +kernel
theorem d_Fd_addByte_5 : decode c_Fd_addByte 5 = .ok (.imul, 1) := by decide +kernel
theorem d_Fd_addByte_6 : decode c_Fd_addByte 6 = .ok (.bipush 26, 2) := by decide +kernel
theorem d_Fd_addByte_8 : decode c_Fd_addByte 8 = .ok (.idiv, 1) := by decide +kernel
theorem d_Fd_addByte_9 : decode c_Fd_addByte 9 = .ok (.dup2, 1) := by decide +kernel
theorem d_Fd_addByte_10 : decode c_Fd_addByte 10 = .ok (.laload, 1) := by decide +kernel
theorem d_Fd_addByte_11 : decode c_Fd_addByte 11 = .ok (.lload_n 1, 1) := by decide +kernel
theorem d_Fd_addByte_12 : decode c_Fd_addByte 12 = .ok (.bipush 8, 2) := by decide +kernel
theorem d_Fd_addByte_14 : decode c_Fd_addByte 14 = .ok (.iload_n 3, 1) := by decide +kernel
theorem d_Fd_addByte_15 : decode c_Fd_addByte 15 = .ok (.imul, 1) := by decide +kernel
theorem d_Fd_addByte_16 : decode c_Fd_addByte 16 = .ok (.bipush 26, 2) := by decide +kernel
theorem d_Fd_addByte_18 : decode c_Fd_addByte 18 = .ok (.irem, 1) := by decide +kernel
theorem d_Fd_addByte_19 : decode c_Fd_addByte 19 = .ok (.lshl, 1) := by decide +kernel
theorem d_Fd_addByte_20 : decode c_Fd_addByte 20 = .ok (.ladd, 1) := by decide +kernel
theorem d_Fd_addByte_21 : decode c_Fd_addByte 21 = .ok (.lastore, 1) := by decide +kernel
theorem d_Fd_addByte_22 : decode c_Fd_addByte 22 = .ok (.return_, 1) := by decide +kernel
set_option maxRecDepth 100000 in
set_option maxHeartbeats 4000000 in
/-- a byte added at its place -/
theorem m_Fd_addByte (l : Launch) (G : wG) (A : Nat → Prop) (ad : Nat → Nat) (ev : Nat → va_E) (qF q M i : Nat) (v : Int64) (f : Nat → Int64) (hq : q < 52) (hev : ev q = eJ G M f) (hi : 8 * i / 26 < M) (hi2 : i < 1000) (hM : M < 2 ^ 30) : wM l y_Fd_addByte w_Fd_addByte ({ frames := 0, cells := 0, slots := 0, locals := 0 }) G A 52 ad ev [.ref (ad qF), .long (v), .int (nI (i)), .ref (ad q)] (fun ov ev' => ov = none ∧ ev' = va_up ev q (eJ G M (adB f v i))) := by
  refine wv_ofW (cc := c_Fd_addByte) (maxL := 5) (ret := none) (by decide) rfl (Nat.le_of_ble_eq_true rfl) ?_
  intro p e s m below meth c ls hx hb hr hml hts hown hlocks hini h hl
  have hl : lv_has ls 5 [(0, .ref (ad qF)), (1, .long (v)), (3, .int (nI (i))), (4, .ref (ad q))] := hl
  refine lv_aload hx hb d_Fd_addByte_0 (lv_at hl 3 rfl) ?_
  refine lv_bipush (v := nI (8)) hx hb d_Fd_addByte_2 (by decide) ?_
  refine lv_iload_n hx hb d_Fd_addByte_4 rfl (lv_at hl 2 rfl) ?_
  refine lv_imul hx hb d_Fd_addByte_5 ?_
  refine wv_top (pk_mul _ _) ?_
  refine lv_bipush (v := nI (26)) hx hb d_Fd_addByte_6 (by decide) ?_
  refine lv_idiv hx hb d_Fd_addByte_8 (by decide) ?_
  refine wv_top (pk_div (by omega) (by omega) (by omega)) ?_
  refine lv_dup2_11 hx hb d_Fd_addByte_9 rfl rfl ?_
  refine wv_lald hx hb h q hq (f := f) hev (k := (8 * i) / 26) rfl (by omega) (by omega) d_Fd_addByte_10 ?_
  refine lv_lload_n hx hb d_Fd_addByte_11 rfl (lv_at hl 1 rfl) ?_
  refine lv_bipush (v := nI (8)) hx hb d_Fd_addByte_12 (by decide) ?_
  refine lv_iload_n hx hb d_Fd_addByte_14 rfl (lv_at hl 2 rfl) ?_
  refine lv_imul hx hb d_Fd_addByte_15 ?_
  refine wv_top (pk_mul _ _) ?_
  refine lv_bipush (v := nI (26)) hx hb d_Fd_addByte_16 (by decide) ?_
  refine lv_irem hx hb d_Fd_addByte_18 (by decide) ?_
  refine wv_top (pk_rem (by omega) (by omega) (by omega)) ?_
  refine lv_lshl (v := sal v ((8 * i) % 26)) hx hb d_Fd_addByte_19 rfl ?_
  refine lv_ladd hx hb d_Fd_addByte_20 ?_
  refine wv_last hx hb h q hq (f := f) hev (k := (8 * i) / 26) rfl (by omega) (by omega) d_Fd_addByte_21 (fun H locs h => ?_)
  obtain ⟨ev1, o1⟩ : ∃ z, z = va_up ev q (eJ G M (va_up f ((8 * i) / 26) ((f ((8 * i) / 26)) + (sal v ((8 * i) % 26))))) := ⟨_, rfl⟩
  rw [← o1] at h
  have t1_q : ev1 q = eJ G M (va_up f ((8 * i) / 26) ((f ((8 * i) / 26)) + (sal v ((8 * i) % 26)))) := by rw [o1, va_up_self]
  exact wv_vret hx hb hr hlocks h d_Fd_addByte_22 ⟨rfl, o1⟩
theorem d_Fd_addBytes_0 : decode c_Fd_addBytes 0 = .ok (.iconst 0, 1) := by decide +kernel
theorem d_Fd_addBytes_1 : decode c_Fd_addBytes 1 = .ok (.istore 5, 2) := by decide +kernel
theorem d_Fd_addBytes_3 : decode c_Fd_addBytes 3 = .ok (.iload 5, 2) := by decide +kernel
theorem d_Fd_addBytes_5 : decode c_Fd_addBytes 5 = .ok (.iload_n 3, 1) := by decide +kernel
theorem d_Fd_addBytes_6 : decode c_Fd_addBytes 6 = .ok (.if_icmp .ge 28, 3) := by decide +kernel
theorem d_Fd_addBytes_9 : decode c_Fd_addBytes 9 = .ok (.aload_n 0, 1) := by decide +kernel
theorem d_Fd_addBytes_10 : decode c_Fd_addBytes 10 = .ok (.aload_n 1, 1) := by decide +kernel
theorem d_Fd_addBytes_11 : decode c_Fd_addBytes 11 = .ok (.iload_n 2, 1) := by decide +kernel
theorem d_Fd_addBytes_12 : decode c_Fd_addBytes 12 = .ok (.iload 5, 2) := by decide +kernel
theorem d_Fd_addBytes_14 : decode c_Fd_addBytes 14 = .ok (.iadd, 1) := by decide +kernel
theorem d_Fd_addBytes_15 : decode c_Fd_addBytes 15 = .ok (.baload, 1) := by decide +kernel
theorem d_Fd_addBytes_16 : decode c_Fd_addBytes 16 = .ok (.sipush 255, 3) := by decide +kernel
theorem d_Fd_addBytes_19 : decode c_Fd_addBytes 19 = .ok (.iand, 1) := by decide +kernel
theorem d_Fd_addBytes_20 : decode c_Fd_addBytes 20 = .ok (.i2l, 1) := by decide +kernel
theorem d_Fd_addBytes_21 : decode c_Fd_addBytes 21 = .ok (.iload 5, 2) := by decide +kernel
theorem d_Fd_addBytes_23 : decode c_Fd_addBytes 23 = .ok (.aload 4, 2) := by decide +kernel
theorem d_Fd_addBytes_25 : decode c_Fd_addBytes 25 = .ok (.invokevirtual 46, 3) := by decide +kernel
theorem d_Fd_addBytes_28 : decode c_Fd_addBytes 28 = .ok (.iinc 5 1, 3) := by decide +kernel
theorem d_Fd_addBytes_31 : decode c_Fd_addBytes 31 = .ok (.goto (-28), 3) := by decide +kernel
theorem d_Fd_addBytes_34 : decode c_Fd_addBytes 34 = .ok (.aload 4, 2) := by decide +kernel
theorem d_Fd_addBytes_36 : decode c_Fd_addBytes 36 = .ok (.invokestatic 43, 3) := by decide +kernel
theorem d_Fd_addBytes_39 : decode c_Fd_addBytes 39 = .ok (.return_, 1) := by decide +kernel
set_option maxRecDepth 100000 in
set_option maxHeartbeats 4000000 in
/-- the number in n bytes added -/
theorem m_Fd_addBytes (l : Launch) (G : wG) (A : Nat → Prop) (ad : Nat → Nat) (ev : Nat → va_E) (qF ci : Nat) (fs : List Value) (hqF : qF < 52) (hF : ev qF = eO 1 fs) (qb q M Mb o n : Nat) (B : Nat → Nat) (f : Nat → Int64) (hqb : qb < 52) (hq : q < 52) (hb' : ev qb = eB G Mb (bs B)) (hB : ∀ j, B j < 256) (hev : ev q = eJ G M f) (nFq : qF ≠ q) (nbq : qb ≠ q) (hn : 8 * n ≤ 26 * M) (hn2 : n < 1000) (ho : o + n ≤ Mb) (hMb : Mb < 2 ^ 30) (h1 : 1 ≤ M) (hM : M < 2 ^ 30) : wM l y_Fd_addBytes w_Fd_addBytes ({ frames := 3, cells := 0, slots := 0, locals := 100 }) G A 52 ad ev [.ref (ad qF), .ref (ad qb), .int (nI (o)), .int (nI (n)), .ref (ad q)] (fun ov ev' => ov = none ∧ ev' = va_up ev q (eJ G M (cry (adBs B o f n) (M - 1)))) := by
  refine wv_ofW (cc := c_Fd_addBytes) (maxL := 6) (ret := none) (by decide) rfl (Nat.le_of_ble_eq_true rfl) ?_
  intro p e s m below meth c ls hx hb hr hml hts hown hlocks hini h hl
  have hl : lv_has ls 6 [(0, .ref (ad qF)), (1, .ref (ad qb)), (2, .int (nI (o))), (3, .int (nI (n))), (4, .ref (ad q))] := hl
  refine lv_iconst (v := nI (0)) hx hb d_Fd_addBytes_0 (by decide) ?_
  refine lv_istore (lv' := [(5, .int (nI (0))), (0, .ref (ad qF)), (1, .ref (ad qb)), (2, .int (nI (o))), (3, .int (nI (n))), (4, .ref (ad q))]) hx hb d_Fd_addBytes_1 hl (by decide) rfl (fun ls hl => ?_)
  have loop1 : ∀ (d k : Nat), k + d = n →  ∀ (ev1 : Nat → va_E) (H : Heap) (locs : List Loc) (ls : Array Slot), ev1 = (va_up ev q (eJ G M (adBs B o f k))) → wT G A 52 ad ev1 s H locs → lv_has ls 6 [(5, .int (nI (k))), (0, .ref (ad qF)), (1, .ref (ad qb)), (2, .int (nI (o))), (3, .int (nI (n))), (4, .ref (ad q))] → W p l e ({ frames := 3, cells := 0, slots := 0, locals := 100 }) s m ([.ref (ad qF), .ref (ad qb), .int (nI (o)), .int (nI (n)), .ref (ad q)] : List Value).toArray below meth c H locs 0 0 (MQ below (wQc G A 52 ad (fun ov ev' => ov = none ∧ ev' = va_up ev q (eJ G M (cry (adBs B o f n) (M - 1))))) ([.ref (ad qF), .ref (ad qb), .int (nI (o)), .int (nI (n)), .ref (ad q)] : List Value).toArray s 0 0 A) (F0 m 3 ls []) := by
    intro d
    induction d with
    | zero =>
      intro k hk_k  ev1 H locs ls  o1 h hl
      have t1_q : ev1 q = eJ G M (adBs B o f k) := by rw [o1, va_up_self]
      have t1_qb := (show ev1 qb = ev qb by rw [o1, va_up_ne _ _ nbq]).trans hb'
      have t1_qF := (show ev1 qF = ev qF by rw [o1, va_up_ne _ _ nFq]).trans hF
      refine lv_iload hx hb d_Fd_addBytes_3 (lv_at hl 0 rfl) ?_
      refine lv_iload_n hx hb d_Fd_addBytes_5 rfl (lv_at hl 4 rfl) ?_
      refine lv_icmp_ge (tgt := 34) hx hb d_Fd_addBytes_6 (by decide) (fun _ => ?_) (fun hc => absurd ((nI_leI (by omega) (by omega)).mpr (by omega)) hc)
      refine lv_aload hx hb d_Fd_addBytes_34 (lv_at hl 5 rfl) ?_
      refine wv_Sx (As := [.ref (ad q)]) (rest := []) (k := 1) ⟨hx, hb, hml, hown, hts⟩ h (m_Fd_carry l G A ad ev1 q M (adBs B o f k) hq t1_q (by omega) (by omega)) kc_Fd_carry kl_Fd_43 ks_Fd_carry ki_Fd (by decide +kernel) ⟨rfl, rfl, Nat.le_of_ble_eq_true rfl, Nat.le_of_ble_eq_true rfl⟩ hl.1 rfl rfl (Nat.le_of_ble_eq_true rfl) ⟨Nat.le_refl _, Nat.le_refl _⟩ d_Fd_addBytes_36 ?_
      intro ov ev2 H locs hp h
      rw [hp.1]
      refine W.eq (g2 := F0 m 39 ls []) rfl ?_
      have o2 : ev2 = (va_up ev1 q (eJ G M (cry (adBs B o f k) (M - 1)))) := hp.2
      have t2_q : ev2 q = eJ G M (cry (adBs B o f k) (M - 1)) := by rw [o2, va_up_self]
      have t2_qb := (show ev2 qb = ev1 qb by rw [o2, va_up_ne _ _ nbq]).trans t1_qb
      have t2_qF := (show ev2 qF = ev1 qF by rw [o2, va_up_ne _ _ nFq]).trans t1_qF
      refine wv_vret hx hb hr hlocks h d_Fd_addBytes_39 ⟨rfl, ?_⟩
      rw [o2, o1, va_up2, show k = n by omega]
    | succ d ih =>
      intro k hk_k  ev1 H locs ls  o1 h hl
      have t1_q : ev1 q = eJ G M (adBs B o f k) := by rw [o1, va_up_self]
      have t1_qb := (show ev1 qb = ev qb by rw [o1, va_up_ne _ _ nbq]).trans hb'
      have t1_qF := (show ev1 qF = ev qF by rw [o1, va_up_ne _ _ nFq]).trans hF
      refine lv_iload hx hb d_Fd_addBytes_3 (lv_at hl 0 rfl) ?_
      refine lv_iload_n hx hb d_Fd_addBytes_5 rfl (lv_at hl 4 rfl) ?_
      refine lv_icmp_ge (tgt := 34) hx hb d_Fd_addBytes_6 (by decide) (fun hc => absurd ((nI_leI (by omega) (by omega)).mp hc) (by omega)) (fun _ => ?_)
      refine lv_aload_n hx hb d_Fd_addBytes_9 rfl (lv_at hl 1 rfl) ?_
      refine lv_aload_n hx hb d_Fd_addBytes_10 rfl (lv_at hl 2 rfl) ?_
      refine lv_iload_n hx hb d_Fd_addBytes_11 rfl (lv_at hl 3 rfl) ?_
      refine lv_iload hx hb d_Fd_addBytes_12 (lv_at hl 0 rfl) ?_
      refine lv_iadd hx hb d_Fd_addBytes_14 ?_
      refine wv_top (nI_add _ _) ?_
      refine wv_bald hx hb h qb hqb (f := (bs B)) t1_qb (k := o + k) rfl (by omega) (by omega) d_Fd_addBytes_15 ?_
      refine lv_sipush (v := (255 : Int32)) hx hb d_Fd_addBytes_16 (by decide) ?_
      refine lv_iand hx hb d_Fd_addBytes_19 ?_
      refine wv_top (bs_and (hB _)) ?_
      refine lv_i2l hx hb d_Fd_addBytes_20 rfl ?_
      refine lv_iload hx hb d_Fd_addBytes_21 (lv_at hl 0 rfl) ?_
      refine lv_aload hx hb d_Fd_addBytes_23 (lv_at hl 5 rfl) ?_
      refine wv_V (As := [.long ((nI (B (o + k))).toInt64), .int (nI (k)), .ref (ad q)]) (rest := []) (k := 3) ⟨hx, hb, hml, hown, hts⟩ h qF hqF (C := "NonceBox$Field") t1_qF rfl (m_Fd_addByte l G A ad ev1 qF q M k (nI (B (o + k))).toInt64 (adBs B o f k) hq t1_q (by omega) (by omega) hM) kc_Fd_addByte kl_Fd_46 km_Fd_addByte kv_Fd_addByte ki_Fd (by decide +kernel) ⟨rfl, rfl, Nat.le_of_ble_eq_true rfl, Nat.le_of_ble_eq_true rfl⟩ hl.1 rfl rfl (Nat.le_of_ble_eq_true rfl) ⟨Nat.le_refl _, Nat.le_refl _⟩ d_Fd_addBytes_25 ?_
      intro ov ev2 H locs hp h
      rw [hp.1]
      refine W.eq (g2 := F0 m 28 ls []) rfl ?_
      have o2 : ev2 = (va_up ev1 q (eJ G M (adBs B o f (k + 1)))) := hp.2
      have t2_q : ev2 q = eJ G M (adBs B o f (k + 1)) := by rw [o2, va_up_self]
      have t2_qb := (show ev2 qb = ev1 qb by rw [o2, va_up_ne _ _ nbq]).trans t1_qb
      have t2_qF := (show ev2 qF = ev1 qF by rw [o2, va_up_ne _ _ nFq]).trans t1_qF
      refine lv_iinc (v := nI (k + 1)) (lv' := [(5, .int (nI (k + 1))), (0, .ref (ad qF)), (1, .ref (ad qb)), (2, .int (nI (o))), (3, .int (nI (n))), (4, .ref (ad q))]) hx hb d_Fd_addBytes_28 hl (k := 0) rfl (nI_add _ _) (by decide) rfl (fun ls hl => ?_)
      refine lv_goto (tgt := 3) hx hb d_Fd_addBytes_31 (by decide) ?_
      refine ih (k + 1) (by omega) ev2 H locs ls ?_ h (lv_sub hl [0, 1, 2, 3, 4, 5] rfl)
      rw [o2, o1, va_up2]
  exact loop1 n 0 (by omega) ev s.heap [] ls (va_upi _ _ hev).symm h (lv_sub hl [0, 1, 2, 3, 4, 5] rfl)
theorem d_Fd_writeBytes_0 : decode c_Fd_writeBytes 0 = .ok (.iconst 0, 1) := by decide +kernel
theorem d_Fd_writeBytes_1 : decode c_Fd_writeBytes 1 = .ok (.istore 4, 2) := by decide +kernel
theorem d_Fd_writeBytes_3 : decode c_Fd_writeBytes 3 = .ok (.iload 4, 2) := by decide +kernel
theorem d_Fd_writeBytes_5 : decode c_Fd_writeBytes 5 = .ok (.iload_n 3, 1) := by decide +kernel
theorem d_Fd_writeBytes_6 : decode c_Fd_writeBytes 6 = .ok (.if_icmp .ge 74, 3) := by decide +kernel
theorem d_Fd_writeBytes_9 : decode c_Fd_writeBytes 9 = .ok (.bipush 8, 2) := by decide +kernel
theorem d_Fd_writeBytes_11 : decode c_Fd_writeBytes 11 = .ok (.iload 4, 2) := by decide +kernel
theorem d_Fd_writeBytes_13 : decode c_Fd_writeBytes 13 = .ok (.imul, 1) := by decide +kernel
theorem d_Fd_writeBytes_14 : decode c_Fd_writeBytes 14 = .ok (.bipush 26, 2) := by decide +kernel
theorem d_Fd_writeBytes_16 : decode c_Fd_writeBytes 16 = .ok (.idiv, 1) := by decide +kernel
theorem d_Fd_writeBytes_17 : decode c_Fd_writeBytes 17 = .ok (.istore 5, 2) := by decide +kernel
theorem d_Fd_writeBytes_19 : decode c_Fd_writeBytes 19 = .ok (.bipush 8, 2) := by decide +kernel
theorem d_Fd_writeBytes_21 : decode c_Fd_writeBytes 21 = .ok (.iload 4, 2) := by decide +kernel
theorem d_Fd_writeBytes_23 : decode c_Fd_writeBytes 23 = .ok (.imul, 1) := by decide +kernel
theorem d_Fd_writeBytes_24 : decode c_Fd_writeBytes 24 = .ok (.bipush 26, 2) := by decide +kernel
theorem d_Fd_writeBytes_26 : decode c_Fd_writeBytes 26 = .ok (.irem, 1) := by decide +kernel
theorem d_Fd_writeBytes_27 : decode c_Fd_writeBytes 27 = .ok (.istore 6, 2) := by decide +kernel
theorem d_Fd_writeBytes_29 : decode c_Fd_writeBytes 29 = .ok (.aload_n 1, 1) := by decide +kernel
theorem d_Fd_writeBytes_30 : decode c_Fd_writeBytes 30 = .ok (.iload 5, 2) := by decide +kernel
theorem d_Fd_writeBytes_32 : decode c_Fd_writeBytes 32 = .ok (.laload, 1) := by decide +kernel
theorem d_Fd_writeBytes_33 : decode c_Fd_writeBytes 33 = .ok (.iload 6, 2) := by decide +kernel
theorem d_Fd_writeBytes_35 : decode c_Fd_writeBytes 35 = .ok (.lshr, 1) := by decide +kernel
theorem d_Fd_writeBytes_36 : decode c_Fd_writeBytes 36 = .ok (.lstore 7, 2) := by decide +kernel
theorem d_Fd_writeBytes_38 : decode c_Fd_writeBytes 38 = .ok (.iload 5, 2) := by decide +kernel
theorem d_Fd_writeBytes_40 : decode c_Fd_writeBytes 40 = .ok (.iconst 1, 1) := by decide +kernel
theorem d_Fd_writeBytes_41 : decode c_Fd_writeBytes 41 = .ok (.iadd, 1) := by decide +kernel
theorem d_Fd_writeBytes_42 : decode c_Fd_writeBytes 42 = .ok (.aload_n 0, 1) := by decide +kernel
theorem d_Fd_writeBytes_43 : decode c_Fd_writeBytes 43 = .ok (.getfield 9, 3) := by decide +kernel
theorem d_Fd_writeBytes_46 : decode c_Fd_writeBytes 46 = .ok (.if_icmp .ge 20, 3) := by decide +kernel
theorem d_Fd_writeBytes_49 : decode c_Fd_writeBytes 49 = .ok (.lload 7, 2) := by decide +kernel
theorem d_Fd_writeBytes_51 : decode c_Fd_writeBytes 51 = .ok (.aload_n 1, 1) := by decide +kernel
theorem d_Fd_writeBytes_52 : decode c_Fd_writeBytes 52 = .ok (.iload 5, 2) := by decide +kernel
theorem d_Fd_writeBytes_54 : decode c_Fd_writeBytes 54 = .ok (.iconst 1, 1) := by decide +kernel
theorem d_Fd_writeBytes_55 : decode c_Fd_writeBytes 55 = .ok (.iadd, 1) := by decide +kernel
theorem d_Fd_writeBytes_56 : decode c_Fd_writeBytes 56 = .ok (.laload, 1) := by decide +kernel
theorem d_Fd_writeBytes_57 : decode c_Fd_writeBytes 57 = .ok (.bipush 26, 2) := by decide +kernel
theorem d_Fd_writeBytes_59 : decode c_Fd_writeBytes 59 = .ok (.iload 6, 2) := by decide +kernel
theorem d_Fd_writeBytes_61 : decode c_Fd_writeBytes 61 = .ok (.isub, 1) := by decide +kernel
theorem d_Fd_writeBytes_62 : decode c_Fd_writeBytes 62 = .ok (.lshl, 1) := by decide +kernel
theorem d_Fd_writeBytes_63 : decode c_Fd_writeBytes 63 = .ok (.lor, 1) := by decide +kernel
theorem d_Fd_writeBytes_64 : decode c_Fd_writeBytes 64 = .ok (.lstore 7, 2) := by decide +kernel
theorem d_Fd_writeBytes_66 : decode c_Fd_writeBytes 66 = .ok (.aload_n 2, 1) := by decide +kernel
theorem d_Fd_writeBytes_67 : decode c_Fd_writeBytes 67 = .ok (.iload 4, 2) := by decide +kernel
theorem d_Fd_writeBytes_69 : decode c_Fd_writeBytes 69 = .ok (.lload 7, 2) := by decide +kernel
theorem d_Fd_writeBytes_71 : decode c_Fd_writeBytes 71 = .ok (.l2i, 1) := by decide +kernel
theorem d_Fd_writeBytes_72 : decode c_Fd_writeBytes 72 = .ok (.i2b, 1) := by decide +kernel
theorem d_Fd_writeBytes_73 : decode c_Fd_writeBytes 73 = .ok (.bastore, 1) := by decide +kernel
theorem d_Fd_writeBytes_74 : decode c_Fd_writeBytes 74 = .ok (.iinc 4 1, 3) := by decide +kernel
theorem d_Fd_writeBytes_77 : decode c_Fd_writeBytes 77 = .ok (.goto (-74), 3) := by decide +kernel
theorem d_Fd_writeBytes_80 : decode c_Fd_writeBytes 80 = .ok (.return_, 1) := by decide +kernel
set_option maxRecDepth 100000 in
set_option maxHeartbeats 4000000 in
/-- the lowest n bytes of a carried row -/
theorem m_Fd_writeBytes (l : Launch) (G : wG) (A : Nat → Prop) (ad : Nat → Nat) (ev : Nat → va_E) (qF qw nl tb : Nat) (low fold : Int64) (hqF : qF < 52) (hF : ev qF = eO 1 [.int (nI nl), .int (nI tb), .long low, .long fold, .ref (ad qw)]) (hnl : 2 ≤ nl) (hnl2 : nl < 100) (qx qt Mt n : Nat) (X : Nat → Int64) (T : Nat → Nat) (hqx : qx < 52) (hqt : qt < 52) (hX : ev qx = eJ G nl X) (hT : ev qt = eB G Mt (bs T)) (nFt : qF ≠ qt) (nxt : qx ≠ qt) (hn : 8 * n ≤ 26 * nl) (hn2 : n ≤ Mt) (hMt : Mt < 2 ^ 30) : wM l y_Fd_writeBytes w_Fd_writeBytes ({ frames := 0, cells := 0, slots := 0, locals := 0 }) G A 52 ad ev [.ref (ad qF), .ref (ad qx), .ref (ad qt), .int (nI (n))] (fun ov ev' => ov = none ∧ ev' = va_up ev qt (eB G Mt (bs (fil 0 n (wbB nl X) T)))) := by
  refine wv_ofW (cc := c_Fd_writeBytes) (maxL := 9) (ret := none) (by decide) rfl (Nat.le_of_ble_eq_true rfl) ?_
  intro p e s m below meth c ls hx hb hr hml hts hown hlocks hini h hl
  have hl : lv_has ls 9 [(0, .ref (ad qF)), (1, .ref (ad qx)), (2, .ref (ad qt)), (3, .int (nI (n)))] := hl
  refine lv_iconst (v := nI (0)) hx hb d_Fd_writeBytes_0 (by decide) ?_
  refine lv_istore (lv' := [(4, .int (nI (0))), (0, .ref (ad qF)), (1, .ref (ad qx)), (2, .ref (ad qt)), (3, .int (nI (n)))]) hx hb d_Fd_writeBytes_1 hl (by decide) rfl (fun ls hl => ?_)
  have loop1 : ∀ (d k : Nat), k + d = n →  ∀ (ev1 : Nat → va_E) (H : Heap) (locs : List Loc) (ls : Array Slot), ev1 = (va_up ev qt (eB G Mt (bs (fil 0 k (wbB nl X) T)))) → wT G A 52 ad ev1 s H locs → lv_has ls 9 [(4, .int (nI (k))), (0, .ref (ad qF)), (1, .ref (ad qx)), (2, .ref (ad qt)), (3, .int (nI (n)))] → W p l e ({ frames := 0, cells := 0, slots := 0, locals := 0 }) s m ([.ref (ad qF), .ref (ad qx), .ref (ad qt), .int (nI (n))] : List Value).toArray below meth c H locs 0 0 (MQ below (wQc G A 52 ad (fun ov ev' => ov = none ∧ ev' = va_up ev qt (eB G Mt (bs (fil 0 n (wbB nl X) T))))) ([.ref (ad qF), .ref (ad qx), .ref (ad qt), .int (nI (n))] : List Value).toArray s 0 0 A) (F0 m 3 ls []) := by
    intro d
    induction d with
    | zero =>
      intro k hk_k  ev1 H locs ls  o1 h hl
      have t1_qt : ev1 qt = eB G Mt (bs (fil 0 k (wbB nl X) T)) := by rw [o1, va_up_self]
      have t1_qx := (show ev1 qx = ev qx by rw [o1, va_up_ne _ _ nxt]).trans hX
      have t1_qF := (show ev1 qF = ev qF by rw [o1, va_up_ne _ _ nFt]).trans hF
      refine lv_iload hx hb d_Fd_writeBytes_3 (lv_at hl 0 rfl) ?_
      refine lv_iload_n hx hb d_Fd_writeBytes_5 rfl (lv_at hl 4 rfl) ?_
      refine lv_icmp_ge (tgt := 80) hx hb d_Fd_writeBytes_6 (by decide) (fun _ => ?_) (fun hc => absurd ((nI_leI (by omega) (by omega)).mpr (by omega)) hc)
      refine wv_vret hx hb hr hlocks h d_Fd_writeBytes_80 ⟨rfl, ?_⟩
      rw [o1, show k = n by omega]
    | succ d ih =>
      intro k hk_k  ev1 H locs ls  o1 h hl
      have t1_qt : ev1 qt = eB G Mt (bs (fil 0 k (wbB nl X) T)) := by rw [o1, va_up_self]
      have t1_qx := (show ev1 qx = ev qx by rw [o1, va_up_ne _ _ nxt]).trans hX
      have t1_qF := (show ev1 qF = ev qF by rw [o1, va_up_ne _ _ nFt]).trans hF
      refine lv_iload hx hb d_Fd_writeBytes_3 (lv_at hl 0 rfl) ?_
      refine lv_iload_n hx hb d_Fd_writeBytes_5 rfl (lv_at hl 4 rfl) ?_
      refine lv_icmp_ge (tgt := 80) hx hb d_Fd_writeBytes_6 (by decide) (fun hc => absurd ((nI_leI (by omega) (by omega)).mp hc) (by omega)) (fun _ => ?_)
      refine lv_bipush (v := nI (8)) hx hb d_Fd_writeBytes_9 (by decide) ?_
      refine lv_iload hx hb d_Fd_writeBytes_11 (lv_at hl 0 rfl) ?_
      refine lv_imul hx hb d_Fd_writeBytes_13 ?_
      refine wv_top (pk_mul _ _) ?_
      refine lv_bipush (v := nI (26)) hx hb d_Fd_writeBytes_14 (by decide) ?_
      refine lv_idiv hx hb d_Fd_writeBytes_16 (by decide) ?_
      refine wv_top (pk_div (by omega) (by omega) (by omega)) ?_
      refine lv_istore (lv' := [(5, .int (nI ((8 * k) / 26))), (4, .int (nI (k))), (0, .ref (ad qF)), (1, .ref (ad qx)), (2, .ref (ad qt)), (3, .int (nI (n)))]) hx hb d_Fd_writeBytes_17 hl (by decide) rfl (fun ls hl => ?_)
      refine lv_bipush (v := nI (8)) hx hb d_Fd_writeBytes_19 (by decide) ?_
      refine lv_iload hx hb d_Fd_writeBytes_21 (lv_at hl 1 rfl) ?_
      refine lv_imul hx hb d_Fd_writeBytes_23 ?_
      refine wv_top (pk_mul _ _) ?_
      refine lv_bipush (v := nI (26)) hx hb d_Fd_writeBytes_24 (by decide) ?_
      refine lv_irem hx hb d_Fd_writeBytes_26 (by decide) ?_
      refine wv_top (pk_rem (by omega) (by omega) (by omega)) ?_
      refine lv_istore (lv' := [(6, .int (nI ((8 * k) % 26))), (5, .int (nI ((8 * k) / 26))), (4, .int (nI (k))), (0, .ref (ad qF)), (1, .ref (ad qx)), (2, .ref (ad qt)), (3, .int (nI (n)))]) hx hb d_Fd_writeBytes_27 hl (by decide) rfl (fun ls hl => ?_)
      refine lv_aload_n hx hb d_Fd_writeBytes_29 rfl (lv_at hl 4 rfl) ?_
      refine lv_iload hx hb d_Fd_writeBytes_30 (lv_at hl 1 rfl) ?_
      refine wv_lald hx hb h qx hqx (f := X) t1_qx (k := (8 * k) / 26) rfl (by omega) (by omega) d_Fd_writeBytes_32 ?_
      refine lv_iload hx hb d_Fd_writeBytes_33 (lv_at hl 0 rfl) ?_
      refine lv_lshr (v := sar (X ((8 * k) / 26)) ((8 * k) % 26)) hx hb d_Fd_writeBytes_35 rfl ?_
      refine lv_lstore (lv' := [(7, .long (sar (X ((8 * k) / 26)) ((8 * k) % 26))), (6, .int (nI ((8 * k) % 26))), (5, .int (nI ((8 * k) / 26))), (4, .int (nI (k))), (0, .ref (ad qF)), (1, .ref (ad qx)), (2, .ref (ad qt)), (3, .int (nI (n)))]) hx hb d_Fd_writeBytes_36 hl (by decide) rfl (fun ls hl => ?_)
      refine lv_iload hx hb d_Fd_writeBytes_38 (lv_at hl 2 rfl) ?_
      refine lv_iconst (v := nI (1)) hx hb d_Fd_writeBytes_40 (by decide) ?_
      refine lv_iadd hx hb d_Fd_writeBytes_41 ?_
      refine wv_top (nI_add _ _) ?_
      refine lv_aload_n hx hb d_Fd_writeBytes_42 rfl (lv_at hl 4 rfl) ?_
      refine wv_getf hx hb h qF hqF (fs := [.int (nI (nl)), .int (nI (tb)), .long (low), .long (fold), .ref (ad qw)]) t1_qF hts (fun w hw => List.mem_cons_of_mem _ (fW_Fd w hw)) hown (ci := 1) (C := "NonceBox$Field") (T := fT_Fd) (N := 5) rfl 0 (by decide) (hts _ (List.mem_cons_of_mem _ kf_Fd_9)) rfl (v := .int (nI (nl))) rfl d_Fd_writeBytes_43 ?_
      refine lv_icmp_ge (tgt := 66) hx hb d_Fd_writeBytes_46 (by decide) (fun hc => ?_) (fun hc => ?_)
      · have hc := (nI_leI (by omega) (by omega)).mp hc
        refine lv_aload_n hx hb d_Fd_writeBytes_66 rfl (lv_at hl 6 rfl) ?_
        refine lv_iload hx hb d_Fd_writeBytes_67 (lv_at hl 3 rfl) ?_
        refine lv_lload hx hb d_Fd_writeBytes_69 (lv_at hl 0 rfl) ?_
        refine lv_l2i hx hb d_Fd_writeBytes_71 rfl ?_
        refine lv_i2b hx hb d_Fd_writeBytes_72 rfl ?_
        refine wv_bast hx hb h qt hqt (f := (bs (fil 0 k (wbB nl X) T))) t1_qt (k := k) rfl (by omega) (by omega) d_Fd_writeBytes_73 (fun H locs h => ?_)
        obtain ⟨ev2, o2⟩ : ∃ z, z = va_up ev1 qt (eB G Mt (va_up ((bs (fil 0 k (wbB nl X) T))) k (vp_nar .byte (((sar (X ((8 * k) / 26)) ((8 * k) % 26)).toInt32).toInt8.toInt32)))) := ⟨_, rfl⟩
        rw [← o2] at h
        have t2_qt : ev2 qt = eB G Mt (va_up ((bs (fil 0 k (wbB nl X) T))) k (vp_nar .byte (((sar (X ((8 * k) / 26)) ((8 * k) % 26)).toInt32).toInt8.toInt32))) := by rw [o2, va_up_self]
        have t2_qx := (show ev2 qx = ev1 qx by rw [o2, va_up_ne _ _ nxt]).trans t1_qx
        have t2_qF := (show ev2 qF = ev1 qF by rw [o2, va_up_ne _ _ nFt]).trans t1_qF
        refine lv_iinc (v := nI (k + 1)) (lv' := [(4, .int (nI (k + 1))), (7, .long (sar (X ((8 * k) / 26)) ((8 * k) % 26))), (6, .int (nI ((8 * k) % 26))), (5, .int (nI ((8 * k) / 26))), (0, .ref (ad qF)), (1, .ref (ad qx)), (2, .ref (ad qt)), (3, .int (nI (n)))]) hx hb d_Fd_writeBytes_74 hl (k := 3) rfl (nI_add _ _) (by decide) rfl (fun ls hl => ?_)
        refine lv_goto (tgt := 3) hx hb d_Fd_writeBytes_77 (by decide) ?_
        refine ih (k + 1) (by omega) ev2 H locs ls ?_ h (lv_sub hl [0, 4, 5, 6, 7] rfl)
        rw [o2, o1, va_up2, bs_up _ _ (wbB nl X k) (by rw [nar_i8]; unfold wbB bitsW; rw [if_neg (by omega)]), ← fil_s 0 k (wbB nl X) T rfl, Nat.zero_add]
      · have hc := Nat.lt_of_not_le (fun q => hc ((nI_leI (by omega) (by omega)).mpr q))
        refine lv_lload hx hb d_Fd_writeBytes_49 (lv_at hl 0 rfl) ?_
        refine lv_aload_n hx hb d_Fd_writeBytes_51 rfl (lv_at hl 5 rfl) ?_
        refine lv_iload hx hb d_Fd_writeBytes_52 (lv_at hl 2 rfl) ?_
        refine lv_iconst (v := nI (1)) hx hb d_Fd_writeBytes_54 (by decide) ?_
        refine lv_iadd hx hb d_Fd_writeBytes_55 ?_
        refine wv_top (nI_add _ _) ?_
        refine wv_lald hx hb h qx hqx (f := X) t1_qx (k := ((8 * k) / 26) + 1) rfl (by omega) (by omega) d_Fd_writeBytes_56 ?_
        refine lv_bipush (v := nI (26)) hx hb d_Fd_writeBytes_57 (by decide) ?_
        refine lv_iload hx hb d_Fd_writeBytes_59 (lv_at hl 1 rfl) ?_
        refine lv_isub hx hb d_Fd_writeBytes_61 ?_
        refine wv_top (pk_sub (by omega)) ?_
        refine lv_lshl (v := sal (X (((8 * k) / 26) + 1)) (26 - ((8 * k) % 26))) hx hb d_Fd_writeBytes_62 rfl ?_
        refine lv_lor hx hb d_Fd_writeBytes_63 ?_
        refine lv_lstore (lv' := [(7, .long ((sar (X ((8 * k) / 26)) ((8 * k) % 26)) ||| (sal (X (((8 * k) / 26) + 1)) (26 - ((8 * k) % 26))))), (6, .int (nI ((8 * k) % 26))), (5, .int (nI ((8 * k) / 26))), (4, .int (nI (k))), (0, .ref (ad qF)), (1, .ref (ad qx)), (2, .ref (ad qt)), (3, .int (nI (n)))]) hx hb d_Fd_writeBytes_64 hl (by decide) rfl (fun ls hl => ?_)
        refine lv_aload_n hx hb d_Fd_writeBytes_66 rfl (lv_at hl 6 rfl) ?_
        refine lv_iload hx hb d_Fd_writeBytes_67 (lv_at hl 3 rfl) ?_
        refine lv_lload hx hb d_Fd_writeBytes_69 (lv_at hl 0 rfl) ?_
        refine lv_l2i hx hb d_Fd_writeBytes_71 rfl ?_
        refine lv_i2b hx hb d_Fd_writeBytes_72 rfl ?_
        refine wv_bast hx hb h qt hqt (f := (bs (fil 0 k (wbB nl X) T))) t1_qt (k := k) rfl (by omega) (by omega) d_Fd_writeBytes_73 (fun H locs h => ?_)
        obtain ⟨ev2, o2⟩ : ∃ z, z = va_up ev1 qt (eB G Mt (va_up ((bs (fil 0 k (wbB nl X) T))) k (vp_nar .byte ((((sar (X ((8 * k) / 26)) ((8 * k) % 26)) ||| (sal (X (((8 * k) / 26) + 1)) (26 - ((8 * k) % 26)))).toInt32).toInt8.toInt32)))) := ⟨_, rfl⟩
        rw [← o2] at h
        have t2_qt : ev2 qt = eB G Mt (va_up ((bs (fil 0 k (wbB nl X) T))) k (vp_nar .byte ((((sar (X ((8 * k) / 26)) ((8 * k) % 26)) ||| (sal (X (((8 * k) / 26) + 1)) (26 - ((8 * k) % 26)))).toInt32).toInt8.toInt32))) := by rw [o2, va_up_self]
        have t2_qx := (show ev2 qx = ev1 qx by rw [o2, va_up_ne _ _ nxt]).trans t1_qx
        have t2_qF := (show ev2 qF = ev1 qF by rw [o2, va_up_ne _ _ nFt]).trans t1_qF
        refine lv_iinc (v := nI (k + 1)) (lv' := [(4, .int (nI (k + 1))), (7, .long ((sar (X ((8 * k) / 26)) ((8 * k) % 26)) ||| (sal (X (((8 * k) / 26) + 1)) (26 - ((8 * k) % 26))))), (6, .int (nI ((8 * k) % 26))), (5, .int (nI ((8 * k) / 26))), (0, .ref (ad qF)), (1, .ref (ad qx)), (2, .ref (ad qt)), (3, .int (nI (n)))]) hx hb d_Fd_writeBytes_74 hl (k := 3) rfl (nI_add _ _) (by decide) rfl (fun ls hl => ?_)
        refine lv_goto (tgt := 3) hx hb d_Fd_writeBytes_77 (by decide) ?_
        refine ih (k + 1) (by omega) ev2 H locs ls ?_ h (lv_sub hl [0, 4, 5, 6, 7] rfl)
        rw [o2, o1, va_up2, bs_up _ _ (wbB nl X k) (by rw [nar_i8]; unfold wbB bitsW; rw [if_pos (by omega)]), ← fil_s 0 k (wbB nl X) T rfl, Nat.zero_add]
  exact loop1 n 0 (by omega) ev s.heap [] ls (by rw [fil_0, va_upi _ _ hT]) h (lv_sub hl [0, 1, 2, 3, 4] rfl)
theorem d_Fd_settle_0 : decode c_Fd_settle 0 = .ok (.aload_n 0, 1) := by decide +kernel
theorem d_Fd_settle_1 : decode c_Fd_settle 1 = .ok (.aload_n 1, 1) := by decide +kernel
theorem d_Fd_settle_2 : decode c_Fd_settle 2 = .ok (.invokevirtual 39, 3) := by decide +kernel
theorem d_Fd_settle_5 : decode c_Fd_settle 5 = .ok (.aload_n 1, 1) := by decide +kernel
theorem d_Fd_settle_6 : decode c_Fd_settle 6 = .ok (.iconst 0, 1) := by decide +kernel
theorem d_Fd_settle_7 : decode c_Fd_settle 7 = .ok (.dup2, 1) := by decide +kernel
theorem d_Fd_settle_8 : decode c_Fd_settle 8 = .ok (.laload, 1) := by decide +kernel
theorem d_Fd_settle_9 : decode c_Fd_settle 9 = .ok (.aload_n 0, 1) := by decide +kernel
theorem d_Fd_settle_10 : decode c_Fd_settle 10 = .ok (.getfield 16, 3) := by decide +kernel
theorem d_Fd_settle_13 : decode c_Fd_settle 13 = .ok (.ladd, 1) := by decide +kernel
theorem d_Fd_settle_14 : decode c_Fd_settle 14 = .ok (.lastore, 1) := by decide +kernel
theorem d_Fd_settle_15 : decode c_Fd_settle 15 = .ok (.aload_n 0, 1) := by decide +kernel
theorem d_Fd_settle_16 : decode c_Fd_settle 16 = .ok (.aload_n 1, 1) := by decide +kernel
theorem d_Fd_settle_17 : decode c_Fd_settle 17 = .ok (.invokevirtual 39, 3) := by decide +kernel
theorem d_Fd_settle_20 : decode c_Fd_settle 20 = .ok (.aload_n 1, 1) := by decide +kernel
theorem d_Fd_settle_21 : decode c_Fd_settle 21 = .ok (.iconst 0, 1) := by decide +kernel
theorem d_Fd_settle_22 : decode c_Fd_settle 22 = .ok (.dup2, 1) := by decide +kernel
theorem d_Fd_settle_23 : decode c_Fd_settle 23 = .ok (.laload, 1) := by decide +kernel
theorem d_Fd_settle_24 : decode c_Fd_settle 24 = .ok (.aload_n 0, 1) := by decide +kernel
theorem d_Fd_settle_25 : decode c_Fd_settle 25 = .ok (.getfield 16, 3) := by decide +kernel
theorem d_Fd_settle_28 : decode c_Fd_settle 28 = .ok (.lsub, 1) := by decide +kernel
theorem d_Fd_settle_29 : decode c_Fd_settle 29 = .ok (.lastore, 1) := by decide +kernel
theorem d_Fd_settle_30 : decode c_Fd_settle 30 = .ok (.aload_n 1, 1) := by decide +kernel
theorem d_Fd_settle_31 : decode c_Fd_settle 31 = .ok (.invokestatic 43, 3) := by decide +kernel
theorem d_Fd_settle_34 : decode c_Fd_settle 34 = .ok (.return_, 1) := by decide +kernel
set_option maxRecDepth 100000 in
set_option maxHeartbeats 4000000 in
/-- the one row that stands for the remainder -/
theorem m_Fd_settle (l : Launch) (G : wG) (A : Nat → Prop) (ad : Nat → Nat) (ev : Nat → va_E) (qF qw nl tb : Nat) (low fold : Int64) (hqF : qF < 52) (hF : ev qF = eO 1 [.int (nI nl), .int (nI tb), .long low, .long fold, .ref (ad qw)]) (hnl : 2 ≤ nl) (hnl2 : nl < 100) (q : Nat) (f : Nat → Int64) (hq : q < 52) (hev : ev q = eJ G nl f) (nFq : qF ≠ q) : wM l y_Fd_settle w_Fd_settle ({ frames := 6, cells := 0, slots := 0, locals := 200 }) G A 52 ad ev [.ref (ad qF), .ref (ad q)] (fun ov ev' => ov = none ∧ ev' = va_up ev q (eJ G nl (stl nl tb low f))) := by
  refine wv_ofW (cc := c_Fd_settle) (maxL := 2) (ret := none) (by decide) rfl (Nat.le_of_ble_eq_true rfl) ?_
  intro p e s m below meth c ls hx hb hr hml hts hown hlocks hini h hl
  have hl : lv_has ls 2 [(0, .ref (ad qF)), (1, .ref (ad q))] := hl
  obtain ⟨f1, ef1⟩ : ∃ z, z = fTop nl tb low f := ⟨_, rfl⟩
  obtain ⟨f2, ef2⟩ : ∃ z, z = fTop nl tb low (va_up f1 0 (f1 0 + low)) := ⟨_, rfl⟩
  refine lv_aload_n hx hb d_Fd_settle_0 rfl (lv_at hl 0 rfl) ?_
  refine lv_aload_n hx hb d_Fd_settle_1 rfl (lv_at hl 1 rfl) ?_
  refine wv_V (As := [.ref (ad q)]) (rest := []) (k := 1) ⟨hx, hb, hml, hown, hts⟩ h qF hqF (C := "NonceBox$Field") hF rfl (m_Fd_foldTop l G A ad ev qF qw nl tb low fold hqF hF hnl hnl2 q f hq hev nFq) kc_Fd_foldTop kl_Fd_39 km_Fd_foldTop kv_Fd_foldTop ki_Fd (by decide +kernel) ⟨rfl, rfl, Nat.le_of_ble_eq_true rfl, Nat.le_of_ble_eq_true rfl⟩ hl.1 rfl rfl (Nat.le_of_ble_eq_true rfl) ⟨Nat.le_refl _, Nat.le_refl _⟩ d_Fd_settle_2 ?_
  intro ov ev1 H locs hp h
  rw [hp.1]
  refine W.eq (g2 := F0 m 5 ls []) rfl ?_
  have o1 : ev1 = (va_up ev q (eJ G nl (fTop nl tb low f))) := hp.2
  have t1_q : ev1 q = eJ G nl (fTop nl tb low f) := by rw [o1, va_up_self]
  have t1_qF := (show ev1 qF = ev qF by rw [o1, va_up_ne _ _ nFq]).trans hF
  rw [← ef1] at o1 t1_q
  refine lv_aload_n hx hb d_Fd_settle_5 rfl (lv_at hl 1 rfl) ?_
  refine lv_iconst (v := nI (0)) hx hb d_Fd_settle_6 (by decide) ?_
  refine lv_dup2_11 hx hb d_Fd_settle_7 rfl rfl ?_
  refine wv_lald hx hb h q hq (f := f1) t1_q (k := 0) rfl (by omega) (by omega) d_Fd_settle_8 ?_
  refine lv_aload_n hx hb d_Fd_settle_9 rfl (lv_at hl 0 rfl) ?_
  refine wv_getf hx hb h qF hqF (fs := [.int (nI (nl)), .int (nI (tb)), .long (low), .long (fold), .ref (ad qw)]) t1_qF hts (fun w hw => List.mem_cons_of_mem _ (fW_Fd w hw)) hown (ci := 1) (C := "NonceBox$Field") (T := fT_Fd) (N := 5) rfl 2 (by decide) (hts _ (List.mem_cons_of_mem _ kf_Fd_16)) rfl (v := .long (low)) rfl d_Fd_settle_10 ?_
  refine lv_ladd hx hb d_Fd_settle_13 ?_
  refine wv_last hx hb h q hq (f := f1) t1_q (k := 0) rfl (by omega) (by omega) d_Fd_settle_14 (fun H locs h => ?_)
  obtain ⟨ev2, o2⟩ : ∃ z, z = va_up ev1 q (eJ G nl (va_up f1 0 ((f1 0) + low))) := ⟨_, rfl⟩
  rw [← o2] at h
  have t2_q : ev2 q = eJ G nl (va_up f1 0 ((f1 0) + low)) := by rw [o2, va_up_self]
  have t2_qF := (show ev2 qF = ev1 qF by rw [o2, va_up_ne _ _ nFq]).trans t1_qF
  refine lv_aload_n hx hb d_Fd_settle_15 rfl (lv_at hl 0 rfl) ?_
  refine lv_aload_n hx hb d_Fd_settle_16 rfl (lv_at hl 1 rfl) ?_
  refine wv_V (As := [.ref (ad q)]) (rest := []) (k := 1) ⟨hx, hb, hml, hown, hts⟩ h qF hqF (C := "NonceBox$Field") t2_qF rfl (m_Fd_foldTop l G A ad ev2 qF qw nl tb low fold hqF t2_qF hnl hnl2 q (va_up f1 0 (f1 0 + low)) hq t2_q nFq) kc_Fd_foldTop kl_Fd_39 km_Fd_foldTop kv_Fd_foldTop ki_Fd (by decide +kernel) ⟨rfl, rfl, Nat.le_of_ble_eq_true rfl, Nat.le_of_ble_eq_true rfl⟩ hl.1 rfl rfl (Nat.le_of_ble_eq_true rfl) ⟨Nat.le_refl _, Nat.le_refl _⟩ d_Fd_settle_17 ?_
  intro ov ev3 H locs hp h
  rw [hp.1]
  refine W.eq (g2 := F0 m 20 ls []) rfl ?_
  have o3 : ev3 = (va_up ev2 q (eJ G nl (fTop nl tb low (va_up f1 0 (f1 0 + low))))) := hp.2
  have t3_q : ev3 q = eJ G nl (fTop nl tb low (va_up f1 0 (f1 0 + low))) := by rw [o3, va_up_self]
  have t3_qF := (show ev3 qF = ev2 qF by rw [o3, va_up_ne _ _ nFq]).trans t2_qF
  rw [← ef2] at o3 t3_q
  refine lv_aload_n hx hb d_Fd_settle_20 rfl (lv_at hl 1 rfl) ?_
  refine lv_iconst (v := nI (0)) hx hb d_Fd_settle_21 (by decide) ?_
  refine lv_dup2_11 hx hb d_Fd_settle_22 rfl rfl ?_
  refine wv_lald hx hb h q hq (f := f2) t3_q (k := 0) rfl (by omega) (by omega) d_Fd_settle_23 ?_
  refine lv_aload_n hx hb d_Fd_settle_24 rfl (lv_at hl 0 rfl) ?_
  refine wv_getf hx hb h qF hqF (fs := [.int (nI (nl)), .int (nI (tb)), .long (low), .long (fold), .ref (ad qw)]) t3_qF hts (fun w hw => List.mem_cons_of_mem _ (fW_Fd w hw)) hown (ci := 1) (C := "NonceBox$Field") (T := fT_Fd) (N := 5) rfl 2 (by decide) (hts _ (List.mem_cons_of_mem _ kf_Fd_16)) rfl (v := .long (low)) rfl d_Fd_settle_25 ?_
  refine lv_lsub hx hb d_Fd_settle_28 ?_
  refine wv_last hx hb h q hq (f := f2) t3_q (k := 0) rfl (by omega) (by omega) d_Fd_settle_29 (fun H locs h => ?_)
  obtain ⟨ev4, o4⟩ : ∃ z, z = va_up ev3 q (eJ G nl (va_up f2 0 ((f2 0) - low))) := ⟨_, rfl⟩
  rw [← o4] at h
  have t4_q : ev4 q = eJ G nl (va_up f2 0 ((f2 0) - low)) := by rw [o4, va_up_self]
  have t4_qF := (show ev4 qF = ev3 qF by rw [o4, va_up_ne _ _ nFq]).trans t3_qF
  refine lv_aload_n hx hb d_Fd_settle_30 rfl (lv_at hl 1 rfl) ?_
  refine wv_Sx (As := [.ref (ad q)]) (rest := []) (k := 1) ⟨hx, hb, hml, hown, hts⟩ h (m_Fd_carry l G A ad ev4 q nl (va_up f2 0 (f2 0 - low)) hq t4_q (by omega) (by omega)) kc_Fd_carry kl_Fd_43 ks_Fd_carry ki_Fd (by decide +kernel) ⟨rfl, rfl, Nat.le_of_ble_eq_true rfl, Nat.le_of_ble_eq_true rfl⟩ hl.1 rfl rfl (Nat.le_of_ble_eq_true rfl) ⟨Nat.le_refl _, Nat.le_refl _⟩ d_Fd_settle_31 ?_
  intro ov ev5 H locs hp h
  rw [hp.1]
  refine W.eq (g2 := F0 m 34 ls []) rfl ?_
  have o5 : ev5 = (va_up ev4 q (eJ G nl (cry (va_up f2 0 (f2 0 - low)) (nl - 1)))) := hp.2
  have t5_q : ev5 q = eJ G nl (cry (va_up f2 0 (f2 0 - low)) (nl - 1)) := by rw [o5, va_up_self]
  have t5_qF := (show ev5 qF = ev4 qF by rw [o5, va_up_ne _ _ nFq]).trans t4_qF
  refine wv_vret hx hb hr hlocks h d_Fd_settle_34 ⟨rfl, ?_⟩
  rw [o5, o4, o3, o2, o1, va_up2, va_up2, va_up2, va_up2, ef2, ef1]
  rfl
end
section
/-! pure: what Tagger and Curve do, as the machine does it; bytes under masks -/
def pl (x y : Nat → Int64) : Nat → Int64 := fun i => x i + y i
def mi (x y : Nat → Int64) : Nat → Int64 := fun i => x i - y i
def tm (x y : Nat → Int64) : Nat → Int64 := tms 10 21 19 608 x y
def sc (x : Nat → Int64) : Nat → Int64 := fTop 10 21 19 (fun i => x i * (121665 : Int32).toInt64)
def rowV (v : Int32) : Nat → Int64 := va_up (fun _ => 0) 0 v.toInt64
/-- STEP's four new rows -/
def stG (a b c d : Nat → Int64) : Nat → Int64 := tm (pl c d) (mi a b)
def stH (a b c d : Nat → Int64) : Nat → Int64 := tm (mi c d) (pl a b)
def stQ (a b : Nat → Int64) : Nat → Int64 := tm (pl a b) (pl a b)
def stR (a b : Nat → Int64) : Nat → Int64 := tm (mi a b) (mi a b)
def stT (a b : Nat → Int64) : Nat → Int64 := mi (stQ a b) (stR a b)
def stA (a b : Nat → Int64) : Nat → Int64 := tm (stQ a b) (stR a b)
def stB (a b : Nat → Int64) : Nat → Int64 := tm (stT a b) (pl (stQ a b) (sc (stT a b)))
def stC (a b c d : Nat → Int64) : Nat → Int64 := tm (pl (stG a b c d) (stH a b c d)) (pl (stG a b c d) (stH a b c d))
def stD (u a b c d : Nat → Int64) : Nat → Int64 := tm u (tm (mi (stG a b c d) (stH a b c d)) (mi (stG a b c d) (stH a b c d)))
theorem sb_m15 : ∀ c, c < 256 → vp_nar .byte (sb_b c &&& (15 : Int32)).toInt8.toInt32 = sb_b (c % 16) := by decide +kernel
theorem sb_m252 : ∀ c, c < 256 → vp_nar .byte (sb_b c &&& (252 : Int32)).toInt8.toInt32 = sb_b (c / 4 * 4) := by decide +kernel
theorem sb_m127 : ∀ c, c < 256 → vp_nar .byte (sb_b c &&& (127 : Int32)).toInt8.toInt32 = sb_b (c % 128) := by decide +kernel
theorem sb_m248 : ∀ c, c < 256 → vp_nar .byte (sb_b c &&& (248 : Int32)).toInt8.toInt32 = sb_b (c / 8 * 8) := by decide +kernel
theorem sb_o64 : ∀ c, c < 128 → vp_nar .byte (sb_b c ||| (64 : Int32)).toInt8.toInt32 = sb_b (c % 64 + 64) := by decide +kernel
theorem sb_bit : ∀ c, c < 256 → ∀ b, b < 8 → sb_b c >>> (nI b &&& 31) &&& (1 : Int32) = nI (c / 2 ^ b % 2) := by decide +kernel
/-- the key's bytes as TAG's r takes them -/
def FCT (K : Nat → Nat) : Nat → Nat := fun j => if j % 4 = 3 then K j % 16 else if j % 4 = 0 ∧ 0 < j then K j / 4 * 4 else K j
theorem FCT_lt {K : Nat → Nat} (h : ∀ j, K j < 256) (j : Nat) : FCT K j < 256 := by
  have := h j
  unfold FCT
  by_cases h1 : j % 4 = 3
  · rw [if_pos h1]; omega
  · rw [if_neg h1]
    by_cases h2 : j % 4 = 0 ∧ 0 < j
    · rw [if_pos h2]; omega
    · rw [if_neg h2]; exact this
/-- MULTIPLE's key and point, as bytes -/
def KEYB (K : Nat → Nat) : Nat → Nat := fun j => if j = 0 then K 0 / 8 * 8 else if j = 31 then K 31 % 64 + 64 else K j
def PNTB (K : Nat → Nat) : Nat → Nat := fun j => if j = 31 then K 31 % 128 else K j
theorem KEYB_lt {K : Nat → Nat} (h : ∀ j, K j < 256) (j : Nat) : KEYB K j < 256 := by
  have := h j
  have := h 0
  unfold KEYB
  by_cases h1 : j = 0
  · rw [if_pos h1]; omega
  · rw [if_neg h1]
    by_cases h2 : j = 31
    · rw [if_pos h2]; omega
    · rw [if_neg h2]; assumption
theorem PNTB_lt {K : Nat → Nat} (h : ∀ j, K j < 256) (j : Nat) : PNTB K j < 256 := by
  have := h j
  unfold PNTB
  by_cases h1 : j = 31
  · rw [if_pos h1]; omega
  · rw [if_neg h1]; assumption
/-- a counter on its way down to -1 -/
def dn : Nat → Int32
  | 0 => -1
  | k + 1 => nI k
theorem dn_dec (k : Nat) : nI k + Int32.ofInt (-1) = dn k := by
  cases k with
  | zero => decide
  | succ k => exact wv_dec (by omega)
/-- the powers on the way to b^(p - 2) -/
def ivS (x : Nat → Int64) : Nat → (Nat → Int64)
  | 0 => x
  | m + 1 => if 253 - m = 2 ∨ 253 - m = 4 then tm (ivS x m) (ivS x m) else tm (tm (ivS x m) (ivS x m)) x
def uRow (X : Nat → Nat) : Nat → Int64 := cry (adBs (PNTB X) 0 (rowV 0) 32) 9
def bitN (B : Nat → Nat) (i : Nat) : Nat := B (i / 8) / 2 ^ (i % 8) % 2
abbrev Row : Type := Nat → Int64
/-- the four rows behind m of the 255 steps -/
def lad (u : Row) (B : Nat → Nat) : Nat → (Row × Row × Row × Row)
  | 0 => (rowV 1, rowV 0, u, rowV 1)
  | m + 1 =>
    let a := (lad u B m).1
    let b := (lad u B m).2.1
    let c := (lad u B m).2.2.1
    let d := (lad u B m).2.2.2
    if bitN B (254 - m) = 1 then (stC c d a b, stD u c d a b, stA c d, stB c d) else (stA a b, stB a b, stC a b c d, stD u a b c d)
def mulRow (K X : Nat → Nat) : Row := stl 10 21 19 (tm (lad (uRow X) (KEYB K) 255).1 (ivS (lad (uRow X) (KEYB K) 255).2.1 254))
/-- MULTIPLE's bytes, as the class makes them -/
def MULB (K X : Nat → Nat) : Nat → Nat := wbB 10 (mulRow K X)
end
section
theorem d_Cv_step_0 : decode c_Cv_step 0 = .ok (.aload_n 0, 1) := by decide +kernel
theorem d_Cv_step_1 : decode c_Cv_step 1 = .ok (.getfield 16, 3) := by decide +kernel
theorem d_Cv_step_4 : decode c_Cv_step 4 = .ok (.aload_n 1, 1) := by decide +kernel
theorem d_Cv_step_5 : decode c_Cv_step 5 = .ok (.aload_n 2, 1) := by decide +kernel
theorem d_Cv_step_6 : decode c_Cv_step 6 = .ok (.aload_n 0, 1) := by decide +kernel
theorem d_Cv_step_7 : decode c_Cv_step 7 = .ok (.getfield 46, 3) := by decide +kernel
theorem d_Cv_step_10 : decode c_Cv_step 10 = .ok (.invokevirtual 111, 3) := by decide +kernel
theorem d_Cv_step_13 : decode c_Cv_step 13 = .ok (.aload_n 0, 1) := by decide +kernel
theorem d_Cv_step_14 : decode c_Cv_step 14 = .ok (.getfield 16, 3) := by decide +kernel
theorem d_Cv_step_17 : decode c_Cv_step 17 = .ok (.aload_n 1, 1) := by decide +kernel
theorem d_Cv_step_18 : decode c_Cv_step 18 = .ok (.aload_n 2, 1) := by decide +kernel
theorem d_Cv_step_19 : decode c_Cv_step 19 = .ok (.aload_n 0, 1) := by decide +kernel
theorem d_Cv_step_20 : decode c_Cv_step 20 = .ok (.getfield 49, 3) := by decide +kernel
theorem d_Cv_step_23 : decode c_Cv_step 23 = .ok (.invokevirtual 114, 3) := by decide +kernel
theorem d_Cv_step_26 : decode c_Cv_step 26 = .ok (.aload_n 0, 1) := by decide +kernel
theorem d_Cv_step_27 : decode c_Cv_step 27 = .ok (.getfield 16, 3) := by decide +kernel
theorem d_Cv_step_30 : decode c_Cv_step 30 = .ok (.aload_n 3, 1) := by decide +kernel
theorem d_Cv_step_31 : decode c_Cv_step 31 = .ok (.aload 4, 2) := by decide +kernel
theorem d_Cv_step_33 : decode c_Cv_step 33 = .ok (.aload_n 0, 1) := by decide +kernel
theorem d_Cv_step_34 : decode c_Cv_step 34 = .ok (.getfield 52, 3) := by decide +kernel
theorem d_Cv_step_37 : decode c_Cv_step 37 = .ok (.invokevirtual 111, 3) := by decide +kernel
theorem d_Cv_step_40 : decode c_Cv_step 40 = .ok (.aload_n 0, 1) := by decide +kernel
theorem d_Cv_step_41 : decode c_Cv_step 41 = .ok (.getfield 16, 3) := by decide +kernel
theorem d_Cv_step_44 : decode c_Cv_step 44 = .ok (.aload_n 0, 1) := by decide +kernel
theorem d_Cv_step_45 : decode c_Cv_step 45 = .ok (.getfield 52, 3) := by decide +kernel
theorem d_Cv_step_48 : decode c_Cv_step 48 = .ok (.aload_n 0, 1) := by decide +kernel
theorem d_Cv_step_49 : decode c_Cv_step 49 = .ok (.getfield 49, 3) := by decide +kernel
theorem d_Cv_step_52 : decode c_Cv_step 52 = .ok (.aload_n 0, 1) := by decide +kernel
theorem d_Cv_step_53 : decode c_Cv_step 53 = .ok (.getfield 52, 3) := by decide +kernel
theorem d_Cv_step_56 : decode c_Cv_step 56 = .ok (.invokevirtual 82, 3) := by decide +kernel
theorem d_Cv_step_59 : decode c_Cv_step 59 = .ok (.aload_n 0, 1) := by decide +kernel
theorem d_Cv_step_60 : decode c_Cv_step 60 = .ok (.getfield 16, 3) := by decide +kernel
theorem d_Cv_step_63 : decode c_Cv_step 63 = .ok (.aload_n 3, 1) := by decide +kernel
theorem d_Cv_step_64 : decode c_Cv_step 64 = .ok (.aload 4, 2) := by decide +kernel
theorem d_Cv_step_66 : decode c_Cv_step 66 = .ok (.aload_n 0, 1) := by decide +kernel
theorem d_Cv_step_67 : decode c_Cv_step 67 = .ok (.getfield 55, 3) := by decide +kernel
theorem d_Cv_step_70 : decode c_Cv_step 70 = .ok (.invokevirtual 114, 3) := by decide +kernel
theorem d_Cv_step_73 : decode c_Cv_step 73 = .ok (.aload_n 0, 1) := by decide +kernel
theorem d_Cv_step_74 : decode c_Cv_step 74 = .ok (.getfield 16, 3) := by decide +kernel
theorem d_Cv_step_77 : decode c_Cv_step 77 = .ok (.aload_n 0, 1) := by decide +kernel
theorem d_Cv_step_78 : decode c_Cv_step 78 = .ok (.getfield 55, 3) := by decide +kernel
theorem d_Cv_step_81 : decode c_Cv_step 81 = .ok (.aload_n 0, 1) := by decide +kernel
theorem d_Cv_step_82 : decode c_Cv_step 82 = .ok (.getfield 46, 3) := by decide +kernel
theorem d_Cv_step_85 : decode c_Cv_step 85 = .ok (.aload_n 0, 1) := by decide +kernel
theorem d_Cv_step_86 : decode c_Cv_step 86 = .ok (.getfield 55, 3) := by decide +kernel
theorem d_Cv_step_89 : decode c_Cv_step 89 = .ok (.invokevirtual 82, 3) := by decide +kernel
theorem d_Cv_step_92 : decode c_Cv_step 92 = .ok (.aload_n 0, 1) := by decide +kernel
theorem d_Cv_step_93 : decode c_Cv_step 93 = .ok (.getfield 16, 3) := by decide +kernel
theorem d_Cv_step_96 : decode c_Cv_step 96 = .ok (.aload_n 0, 1) := by decide +kernel
theorem d_Cv_step_97 : decode c_Cv_step 97 = .ok (.getfield 46, 3) := by decide +kernel
theorem d_Cv_step_100 : decode c_Cv_step 100 = .ok (.aload_n 0, 1) := by decide +kernel
theorem d_Cv_step_101 : decode c_Cv_step 101 = .ok (.getfield 46, 3) := by decide +kernel
theorem d_Cv_step_104 : decode c_Cv_step 104 = .ok (.aload_n 0, 1) := by decide +kernel
theorem d_Cv_step_105 : decode c_Cv_step 105 = .ok (.getfield 58, 3) := by decide +kernel
theorem d_Cv_step_108 : decode c_Cv_step 108 = .ok (.invokevirtual 82, 3) := by decide +kernel
theorem d_Cv_step_111 : decode c_Cv_step 111 = .ok (.aload_n 0, 1) := by decide +kernel
theorem d_Cv_step_112 : decode c_Cv_step 112 = .ok (.getfield 16, 3) := by decide +kernel
theorem d_Cv_step_115 : decode c_Cv_step 115 = .ok (.aload_n 0, 1) := by decide +kernel
theorem d_Cv_step_116 : decode c_Cv_step 116 = .ok (.getfield 49, 3) := by decide +kernel
theorem d_Cv_step_119 : decode c_Cv_step 119 = .ok (.aload_n 0, 1) := by decide +kernel
theorem d_Cv_step_120 : decode c_Cv_step 120 = .ok (.getfield 49, 3) := by decide +kernel
theorem d_Cv_step_123 : decode c_Cv_step 123 = .ok (.aload_n 0, 1) := by decide +kernel
theorem d_Cv_step_124 : decode c_Cv_step 124 = .ok (.getfield 61, 3) := by decide +kernel
theorem d_Cv_step_127 : decode c_Cv_step 127 = .ok (.invokevirtual 82, 3) := by decide +kernel
theorem d_Cv_step_130 : decode c_Cv_step 130 = .ok (.aload_n 0, 1) := by decide +kernel
theorem d_Cv_step_131 : decode c_Cv_step 131 = .ok (.getfield 16, 3) := by decide +kernel
theorem d_Cv_step_134 : decode c_Cv_step 134 = .ok (.aload_n 0, 1) := by decide +kernel
theorem d_Cv_step_135 : decode c_Cv_step 135 = .ok (.getfield 58, 3) := by decide +kernel
theorem d_Cv_step_138 : decode c_Cv_step 138 = .ok (.aload_n 0, 1) := by decide +kernel
theorem d_Cv_step_139 : decode c_Cv_step 139 = .ok (.getfield 61, 3) := by decide +kernel
theorem d_Cv_step_142 : decode c_Cv_step 142 = .ok (.aload_n 0, 1) := by decide +kernel
theorem d_Cv_step_143 : decode c_Cv_step 143 = .ok (.getfield 64, 3) := by decide +kernel
theorem d_Cv_step_146 : decode c_Cv_step 146 = .ok (.invokevirtual 114, 3) := by decide +kernel
theorem d_Cv_step_149 : decode c_Cv_step 149 = .ok (.aload_n 0, 1) := by decide +kernel
theorem d_Cv_step_150 : decode c_Cv_step 150 = .ok (.getfield 16, 3) := by decide +kernel
theorem d_Cv_step_153 : decode c_Cv_step 153 = .ok (.aload_n 0, 1) := by decide +kernel
theorem d_Cv_step_154 : decode c_Cv_step 154 = .ok (.getfield 52, 3) := by decide +kernel
theorem d_Cv_step_157 : decode c_Cv_step 157 = .ok (.aload_n 0, 1) := by decide +kernel
theorem d_Cv_step_158 : decode c_Cv_step 158 = .ok (.getfield 55, 3) := by decide +kernel
theorem d_Cv_step_161 : decode c_Cv_step 161 = .ok (.aload_n 3, 1) := by decide +kernel
theorem d_Cv_step_162 : decode c_Cv_step 162 = .ok (.invokevirtual 111, 3) := by decide +kernel
theorem d_Cv_step_165 : decode c_Cv_step 165 = .ok (.aload_n 0, 1) := by decide +kernel
theorem d_Cv_step_166 : decode c_Cv_step 166 = .ok (.getfield 16, 3) := by decide +kernel
theorem d_Cv_step_169 : decode c_Cv_step 169 = .ok (.aload_n 3, 1) := by decide +kernel
theorem d_Cv_step_170 : decode c_Cv_step 170 = .ok (.aload_n 3, 1) := by decide +kernel
theorem d_Cv_step_171 : decode c_Cv_step 171 = .ok (.aload_n 3, 1) := by decide +kernel
theorem d_Cv_step_172 : decode c_Cv_step 172 = .ok (.invokevirtual 82, 3) := by decide +kernel
theorem d_Cv_step_175 : decode c_Cv_step 175 = .ok (.aload_n 0, 1) := by decide +kernel
theorem d_Cv_step_176 : decode c_Cv_step 176 = .ok (.getfield 16, 3) := by decide +kernel
theorem d_Cv_step_179 : decode c_Cv_step 179 = .ok (.aload_n 0, 1) := by decide +kernel
theorem d_Cv_step_180 : decode c_Cv_step 180 = .ok (.getfield 52, 3) := by decide +kernel
theorem d_Cv_step_183 : decode c_Cv_step 183 = .ok (.aload_n 0, 1) := by decide +kernel
theorem d_Cv_step_184 : decode c_Cv_step 184 = .ok (.getfield 55, 3) := by decide +kernel
theorem d_Cv_step_187 : decode c_Cv_step 187 = .ok (.aload 4, 2) := by decide +kernel
theorem d_Cv_step_189 : decode c_Cv_step 189 = .ok (.invokevirtual 114, 3) := by decide +kernel
theorem d_Cv_step_192 : decode c_Cv_step 192 = .ok (.aload_n 0, 1) := by decide +kernel
theorem d_Cv_step_193 : decode c_Cv_step 193 = .ok (.getfield 16, 3) := by decide +kernel
theorem d_Cv_step_196 : decode c_Cv_step 196 = .ok (.aload 4, 2) := by decide +kernel
theorem d_Cv_step_198 : decode c_Cv_step 198 = .ok (.aload 4, 2) := by decide +kernel
theorem d_Cv_step_200 : decode c_Cv_step 200 = .ok (.aload 4, 2) := by decide +kernel
theorem d_Cv_step_202 : decode c_Cv_step 202 = .ok (.invokevirtual 82, 3) := by decide +kernel
theorem d_Cv_step_205 : decode c_Cv_step 205 = .ok (.aload_n 0, 1) := by decide +kernel
theorem d_Cv_step_206 : decode c_Cv_step 206 = .ok (.getfield 16, 3) := by decide +kernel
theorem d_Cv_step_209 : decode c_Cv_step 209 = .ok (.aload_n 0, 1) := by decide +kernel
theorem d_Cv_step_210 : decode c_Cv_step 210 = .ok (.getfield 43, 3) := by decide +kernel
theorem d_Cv_step_213 : decode c_Cv_step 213 = .ok (.aload 4, 2) := by decide +kernel
theorem d_Cv_step_215 : decode c_Cv_step 215 = .ok (.aload 4, 2) := by decide +kernel
theorem d_Cv_step_217 : decode c_Cv_step 217 = .ok (.invokevirtual 82, 3) := by decide +kernel
theorem d_Cv_step_220 : decode c_Cv_step 220 = .ok (.aload_n 0, 1) := by decide +kernel
theorem d_Cv_step_221 : decode c_Cv_step 221 = .ok (.getfield 16, 3) := by decide +kernel
theorem d_Cv_step_224 : decode c_Cv_step 224 = .ok (.aload_n 0, 1) := by decide +kernel
theorem d_Cv_step_225 : decode c_Cv_step 225 = .ok (.getfield 58, 3) := by decide +kernel
theorem d_Cv_step_228 : decode c_Cv_step 228 = .ok (.aload_n 0, 1) := by decide +kernel
theorem d_Cv_step_229 : decode c_Cv_step 229 = .ok (.getfield 61, 3) := by decide +kernel
theorem d_Cv_step_232 : decode c_Cv_step 232 = .ok (.aload_n 1, 1) := by decide +kernel
theorem d_Cv_step_233 : decode c_Cv_step 233 = .ok (.invokevirtual 82, 3) := by decide +kernel
theorem d_Cv_step_236 : decode c_Cv_step 236 = .ok (.aload_n 0, 1) := by decide +kernel
theorem d_Cv_step_237 : decode c_Cv_step 237 = .ok (.getfield 16, 3) := by decide +kernel
theorem d_Cv_step_240 : decode c_Cv_step 240 = .ok (.aload_n 0, 1) := by decide +kernel
theorem d_Cv_step_241 : decode c_Cv_step 241 = .ok (.getfield 64, 3) := by decide +kernel
theorem d_Cv_step_244 : decode c_Cv_step 244 = .ok (.ldc 117, 2) := by decide +kernel
theorem d_Cv_step_246 : decode c_Cv_step 246 = .ok (.aload_n 2, 1) := by decide +kernel
theorem d_Cv_step_247 : decode c_Cv_step 247 = .ok (.invokevirtual 118, 3) := by decide +kernel
theorem d_Cv_step_250 : decode c_Cv_step 250 = .ok (.aload_n 0, 1) := by decide +kernel
theorem d_Cv_step_251 : decode c_Cv_step 251 = .ok (.getfield 16, 3) := by decide +kernel
theorem d_Cv_step_254 : decode c_Cv_step 254 = .ok (.aload_n 0, 1) := by decide +kernel
theorem d_Cv_step_255 : decode c_Cv_step 255 = .ok (.getfield 58, 3) := by decide +kernel
theorem d_Cv_step_258 : decode c_Cv_step 258 = .ok (.aload_n 2, 1) := by decide +kernel
theorem d_Cv_step_259 : decode c_Cv_step 259 = .ok (.aload_n 2, 1) := by decide +kernel
theorem d_Cv_step_260 : decode c_Cv_step 260 = .ok (.invokevirtual 111, 3) := by decide +kernel
theorem d_Cv_step_263 : decode c_Cv_step 263 = .ok (.aload_n 0, 1) := by decide +kernel
theorem d_Cv_step_264 : decode c_Cv_step 264 = .ok (.getfield 16, 3) := by decide +kernel
theorem d_Cv_step_267 : decode c_Cv_step 267 = .ok (.aload_n 0, 1) := by decide +kernel
theorem d_Cv_step_268 : decode c_Cv_step 268 = .ok (.getfield 64, 3) := by decide +kernel
theorem d_Cv_step_271 : decode c_Cv_step 271 = .ok (.aload_n 2, 1) := by decide +kernel
theorem d_Cv_step_272 : decode c_Cv_step 272 = .ok (.aload_n 2, 1) := by decide +kernel
theorem d_Cv_step_273 : decode c_Cv_step 273 = .ok (.invokevirtual 82, 3) := by decide +kernel
theorem d_Cv_step_276 : decode c_Cv_step 276 = .ok (.return_, 1) := by decide +kernel
set_option maxRecDepth 100000 in
set_option maxHeartbeats 4000000 in
/-- STEP, the rows 22 23 24 25 -/
theorem m_Cv_step (l : Launch) (G : wG) (A : Nat → Prop) (ad : Nat → Nat) (ev : Nat → va_E) (Ra Rb Rc Rd U zW zE zF zG zH zQ zR zT : Nat → Int64) (h18 : ev 18 = eO 0 [.ref (ad 19), .ref (ad 21), .ref (ad 22), .ref (ad 23), .ref (ad 24), .ref (ad 25), .ref (ad 26), .ref (ad 27), .ref (ad 28), .ref (ad 29), .ref (ad 30), .ref (ad 31), .ref (ad 32), .ref (ad 33)]) (h19 : ev 19 = eO 1 [.int (nI 10), .int (nI 21), .long 19, .long 608, .ref (ad 20)]) (ha : ev 22 = eJ G 10 Ra) (hb' : ev 23 = eJ G 10 Rb) (hc : ev 24 = eJ G 10 Rc) (hd : ev 25 = eJ G 10 Rd) (hu : ev 26 = eJ G 10 U) (h20 : ev 20 = eJ G 20 zW) (h27 : ev 27 = eJ G 10 zE) (h28 : ev 28 = eJ G 10 zF) (h29 : ev 29 = eJ G 10 zG) (h30 : ev 30 = eJ G 10 zH) (h31 : ev 31 = eJ G 10 zQ) (h32 : ev 32 = eJ G 10 zR) (h33 : ev 33 = eJ G 10 zT) : wM l y_Cv_step w_Cv_step ({ frames := 12, cells := 0, slots := 0, locals := 400 }) G A 52 ad ev [.ref (ad 18), .ref (ad 22), .ref (ad 23), .ref (ad 24), .ref (ad 25)] (fun ov ev' => ∃ (W E1 F1 G1 H1 Q1 R1 T1 : Nat → Int64), ov = none ∧ ev' = (va_up (va_up (va_up (va_up (va_up (va_up (va_up (va_up (va_up (va_up (va_up (va_up ev 20 (eJ G 20 W)) 27 (eJ G 10 E1)) 28 (eJ G 10 F1)) 29 (eJ G 10 G1)) 30 (eJ G 10 H1)) 31 (eJ G 10 Q1)) 32 (eJ G 10 R1)) 33 (eJ G 10 T1)) 22 (eJ G 10 (stA Ra Rb))) 23 (eJ G 10 (stB Ra Rb))) 24 (eJ G 10 (stC Ra Rb Rc Rd))) 25 (eJ G 10 (stD U Ra Rb Rc Rd)))) := by
  refine wv_ofW (cc := c_Cv_step) (maxL := 5) (ret := none) (by decide) rfl (Nat.le_of_ble_eq_true rfl) ?_
  intro p e s m below meth c ls hx hb hr hml hts hown hlocks hini h hl
  have hl : lv_has ls 5 [(0, .ref (ad 18)), (1, .ref (ad 22)), (2, .ref (ad 23)), (3, .ref (ad 24)), (4, .ref (ad 25))] := hl
  refine lv_aload_n hx hb d_Cv_step_0 rfl (lv_at hl 0 rfl) ?_
  refine wv_getf hx hb h 18 (by decide) (fs := [.ref (ad 19), .ref (ad 21), .ref (ad 22), .ref (ad 23), .ref (ad 24), .ref (ad 25), .ref (ad 26), .ref (ad 27), .ref (ad 28), .ref (ad 29), .ref (ad 30), .ref (ad 31), .ref (ad 32), .ref (ad 33)]) h18 hts (fun w hw => List.mem_cons_of_mem _ (fW_Cv w hw)) hown (ci := 0) (C := "NonceBox$Curve") (T := fT_Cv) (N := 14) rfl 0 (by decide) (hts _ (List.mem_cons_of_mem _ kf_Cv_16)) rfl (v := .ref (ad 19)) rfl d_Cv_step_1 ?_
  refine lv_aload_n hx hb d_Cv_step_4 rfl (lv_at hl 1 rfl) ?_
  refine lv_aload_n hx hb d_Cv_step_5 rfl (lv_at hl 2 rfl) ?_
  refine lv_aload_n hx hb d_Cv_step_6 rfl (lv_at hl 0 rfl) ?_
  refine wv_getf hx hb h 18 (by decide) (fs := [.ref (ad 19), .ref (ad 21), .ref (ad 22), .ref (ad 23), .ref (ad 24), .ref (ad 25), .ref (ad 26), .ref (ad 27), .ref (ad 28), .ref (ad 29), .ref (ad 30), .ref (ad 31), .ref (ad 32), .ref (ad 33)]) h18 hts (fun w hw => List.mem_cons_of_mem _ (fW_Cv w hw)) hown (ci := 0) (C := "NonceBox$Curve") (T := fT_Cv) (N := 14) rfl 7 (by decide) (hts _ (List.mem_cons_of_mem _ kf_Cv_46)) rfl (v := .ref (ad 27)) rfl d_Cv_step_7 ?_
  refine wv_V (As := [.ref (ad 22), .ref (ad 23), .ref (ad 27)]) (rest := []) (k := 3) ⟨hx, hb, hml, hown, hts⟩ h 19 (by decide) (C := "NonceBox$Field") h19 rfl (m_Fd_plus l G A ad ev 19 20 10 21 19 608 (by decide) h19 (by decide) (by decide) 22 23 27 Ra Rb zE (by decide) (by decide) (by decide) ha hb' h27 (by decide)) kc_Fd_plus kl_Cv_111 km_Fd_plus kv_Fd_plus ki_Fd (by decide +kernel) ⟨rfl, rfl, Nat.le_of_ble_eq_true rfl, Nat.le_of_ble_eq_true rfl⟩ hl.1 rfl rfl (Nat.le_of_ble_eq_true rfl) ⟨Nat.le_refl _, Nat.le_refl _⟩ d_Cv_step_10 ?_
  intro ov ev1 H locs hp h
  rw [hp.1]
  refine W.eq (g2 := F0 m 13 ls []) rfl ?_
  have o1 : ev1 = (va_up ev 27 (eJ G 10 (pl Ra Rb))) := hp.2
  have t1_27 : ev1 27 = eJ G 10 (pl Ra Rb) := by rw [o1, va_up_self]
  have t1_22 := (show ev1 22 = ev 22 by rw [o1, va_up_ne _ _ (by decide)]).trans ha
  have t1_23 := (show ev1 23 = ev 23 by rw [o1, va_up_ne _ _ (by decide)]).trans hb'
  have t1_24 := (show ev1 24 = ev 24 by rw [o1, va_up_ne _ _ (by decide)]).trans hc
  have t1_25 := (show ev1 25 = ev 25 by rw [o1, va_up_ne _ _ (by decide)]).trans hd
  have t1_26 := (show ev1 26 = ev 26 by rw [o1, va_up_ne _ _ (by decide)]).trans hu
  have t1_28 := (show ev1 28 = ev 28 by rw [o1, va_up_ne _ _ (by decide)]).trans h28
  have t1_29 := (show ev1 29 = ev 29 by rw [o1, va_up_ne _ _ (by decide)]).trans h29
  have t1_30 := (show ev1 30 = ev 30 by rw [o1, va_up_ne _ _ (by decide)]).trans h30
  have t1_31 := (show ev1 31 = ev 31 by rw [o1, va_up_ne _ _ (by decide)]).trans h31
  have t1_32 := (show ev1 32 = ev 32 by rw [o1, va_up_ne _ _ (by decide)]).trans h32
  have t1_33 := (show ev1 33 = ev 33 by rw [o1, va_up_ne _ _ (by decide)]).trans h33
  have t1_20 := (show ev1 20 = ev 20 by rw [o1, va_up_ne _ _ (by decide)]).trans h20
  have t1_18 := (show ev1 18 = ev 18 by rw [o1, va_up_ne _ _ (by decide)]).trans h18
  have t1_19 := (show ev1 19 = ev 19 by rw [o1, va_up_ne _ _ (by decide)]).trans h19
  refine lv_aload_n hx hb d_Cv_step_13 rfl (lv_at hl 0 rfl) ?_
  refine wv_getf hx hb h 18 (by decide) (fs := [.ref (ad 19), .ref (ad 21), .ref (ad 22), .ref (ad 23), .ref (ad 24), .ref (ad 25), .ref (ad 26), .ref (ad 27), .ref (ad 28), .ref (ad 29), .ref (ad 30), .ref (ad 31), .ref (ad 32), .ref (ad 33)]) t1_18 hts (fun w hw => List.mem_cons_of_mem _ (fW_Cv w hw)) hown (ci := 0) (C := "NonceBox$Curve") (T := fT_Cv) (N := 14) rfl 0 (by decide) (hts _ (List.mem_cons_of_mem _ kf_Cv_16)) rfl (v := .ref (ad 19)) rfl d_Cv_step_14 ?_
  refine lv_aload_n hx hb d_Cv_step_17 rfl (lv_at hl 1 rfl) ?_
  refine lv_aload_n hx hb d_Cv_step_18 rfl (lv_at hl 2 rfl) ?_
  refine lv_aload_n hx hb d_Cv_step_19 rfl (lv_at hl 0 rfl) ?_
  refine wv_getf hx hb h 18 (by decide) (fs := [.ref (ad 19), .ref (ad 21), .ref (ad 22), .ref (ad 23), .ref (ad 24), .ref (ad 25), .ref (ad 26), .ref (ad 27), .ref (ad 28), .ref (ad 29), .ref (ad 30), .ref (ad 31), .ref (ad 32), .ref (ad 33)]) t1_18 hts (fun w hw => List.mem_cons_of_mem _ (fW_Cv w hw)) hown (ci := 0) (C := "NonceBox$Curve") (T := fT_Cv) (N := 14) rfl 8 (by decide) (hts _ (List.mem_cons_of_mem _ kf_Cv_49)) rfl (v := .ref (ad 28)) rfl d_Cv_step_20 ?_
  refine wv_V (As := [.ref (ad 22), .ref (ad 23), .ref (ad 28)]) (rest := []) (k := 3) ⟨hx, hb, hml, hown, hts⟩ h 19 (by decide) (C := "NonceBox$Field") t1_19 rfl (m_Fd_minus l G A ad ev1 19 20 10 21 19 608 (by decide) t1_19 (by decide) (by decide) 22 23 28 Ra Rb zF (by decide) (by decide) (by decide) t1_22 t1_23 t1_28 (by decide)) kc_Fd_minus kl_Cv_114 km_Fd_minus kv_Fd_minus ki_Fd (by decide +kernel) ⟨rfl, rfl, Nat.le_of_ble_eq_true rfl, Nat.le_of_ble_eq_true rfl⟩ hl.1 rfl rfl (Nat.le_of_ble_eq_true rfl) ⟨Nat.le_refl _, Nat.le_refl _⟩ d_Cv_step_23 ?_
  intro ov ev2 H locs hp h
  rw [hp.1]
  refine W.eq (g2 := F0 m 26 ls []) rfl ?_
  have o2 : ev2 = (va_up ev1 28 (eJ G 10 (mi Ra Rb))) := hp.2
  have t2_28 : ev2 28 = eJ G 10 (mi Ra Rb) := by rw [o2, va_up_self]
  have t2_22 := (show ev2 22 = ev1 22 by rw [o2, va_up_ne _ _ (by decide)]).trans t1_22
  have t2_23 := (show ev2 23 = ev1 23 by rw [o2, va_up_ne _ _ (by decide)]).trans t1_23
  have t2_24 := (show ev2 24 = ev1 24 by rw [o2, va_up_ne _ _ (by decide)]).trans t1_24
  have t2_25 := (show ev2 25 = ev1 25 by rw [o2, va_up_ne _ _ (by decide)]).trans t1_25
  have t2_26 := (show ev2 26 = ev1 26 by rw [o2, va_up_ne _ _ (by decide)]).trans t1_26
  have t2_27 := (show ev2 27 = ev1 27 by rw [o2, va_up_ne _ _ (by decide)]).trans t1_27
  have t2_29 := (show ev2 29 = ev1 29 by rw [o2, va_up_ne _ _ (by decide)]).trans t1_29
  have t2_30 := (show ev2 30 = ev1 30 by rw [o2, va_up_ne _ _ (by decide)]).trans t1_30
  have t2_31 := (show ev2 31 = ev1 31 by rw [o2, va_up_ne _ _ (by decide)]).trans t1_31
  have t2_32 := (show ev2 32 = ev1 32 by rw [o2, va_up_ne _ _ (by decide)]).trans t1_32
  have t2_33 := (show ev2 33 = ev1 33 by rw [o2, va_up_ne _ _ (by decide)]).trans t1_33
  have t2_20 := (show ev2 20 = ev1 20 by rw [o2, va_up_ne _ _ (by decide)]).trans t1_20
  have t2_18 := (show ev2 18 = ev1 18 by rw [o2, va_up_ne _ _ (by decide)]).trans t1_18
  have t2_19 := (show ev2 19 = ev1 19 by rw [o2, va_up_ne _ _ (by decide)]).trans t1_19
  refine lv_aload_n hx hb d_Cv_step_26 rfl (lv_at hl 0 rfl) ?_
  refine wv_getf hx hb h 18 (by decide) (fs := [.ref (ad 19), .ref (ad 21), .ref (ad 22), .ref (ad 23), .ref (ad 24), .ref (ad 25), .ref (ad 26), .ref (ad 27), .ref (ad 28), .ref (ad 29), .ref (ad 30), .ref (ad 31), .ref (ad 32), .ref (ad 33)]) t2_18 hts (fun w hw => List.mem_cons_of_mem _ (fW_Cv w hw)) hown (ci := 0) (C := "NonceBox$Curve") (T := fT_Cv) (N := 14) rfl 0 (by decide) (hts _ (List.mem_cons_of_mem _ kf_Cv_16)) rfl (v := .ref (ad 19)) rfl d_Cv_step_27 ?_
  refine lv_aload_n hx hb d_Cv_step_30 rfl (lv_at hl 3 rfl) ?_
  refine lv_aload hx hb d_Cv_step_31 (lv_at hl 4 rfl) ?_
  refine lv_aload_n hx hb d_Cv_step_33 rfl (lv_at hl 0 rfl) ?_
  refine wv_getf hx hb h 18 (by decide) (fs := [.ref (ad 19), .ref (ad 21), .ref (ad 22), .ref (ad 23), .ref (ad 24), .ref (ad 25), .ref (ad 26), .ref (ad 27), .ref (ad 28), .ref (ad 29), .ref (ad 30), .ref (ad 31), .ref (ad 32), .ref (ad 33)]) t2_18 hts (fun w hw => List.mem_cons_of_mem _ (fW_Cv w hw)) hown (ci := 0) (C := "NonceBox$Curve") (T := fT_Cv) (N := 14) rfl 9 (by decide) (hts _ (List.mem_cons_of_mem _ kf_Cv_52)) rfl (v := .ref (ad 29)) rfl d_Cv_step_34 ?_
  refine wv_V (As := [.ref (ad 24), .ref (ad 25), .ref (ad 29)]) (rest := []) (k := 3) ⟨hx, hb, hml, hown, hts⟩ h 19 (by decide) (C := "NonceBox$Field") t2_19 rfl (m_Fd_plus l G A ad ev2 19 20 10 21 19 608 (by decide) t2_19 (by decide) (by decide) 24 25 29 Rc Rd zG (by decide) (by decide) (by decide) t2_24 t2_25 t2_29 (by decide)) kc_Fd_plus kl_Cv_111 km_Fd_plus kv_Fd_plus ki_Fd (by decide +kernel) ⟨rfl, rfl, Nat.le_of_ble_eq_true rfl, Nat.le_of_ble_eq_true rfl⟩ hl.1 rfl rfl (Nat.le_of_ble_eq_true rfl) ⟨Nat.le_refl _, Nat.le_refl _⟩ d_Cv_step_37 ?_
  intro ov ev3 H locs hp h
  rw [hp.1]
  refine W.eq (g2 := F0 m 40 ls []) rfl ?_
  have o3 : ev3 = (va_up ev2 29 (eJ G 10 (pl Rc Rd))) := hp.2
  have t3_29 : ev3 29 = eJ G 10 (pl Rc Rd) := by rw [o3, va_up_self]
  have t3_22 := (show ev3 22 = ev2 22 by rw [o3, va_up_ne _ _ (by decide)]).trans t2_22
  have t3_23 := (show ev3 23 = ev2 23 by rw [o3, va_up_ne _ _ (by decide)]).trans t2_23
  have t3_24 := (show ev3 24 = ev2 24 by rw [o3, va_up_ne _ _ (by decide)]).trans t2_24
  have t3_25 := (show ev3 25 = ev2 25 by rw [o3, va_up_ne _ _ (by decide)]).trans t2_25
  have t3_26 := (show ev3 26 = ev2 26 by rw [o3, va_up_ne _ _ (by decide)]).trans t2_26
  have t3_27 := (show ev3 27 = ev2 27 by rw [o3, va_up_ne _ _ (by decide)]).trans t2_27
  have t3_28 := (show ev3 28 = ev2 28 by rw [o3, va_up_ne _ _ (by decide)]).trans t2_28
  have t3_30 := (show ev3 30 = ev2 30 by rw [o3, va_up_ne _ _ (by decide)]).trans t2_30
  have t3_31 := (show ev3 31 = ev2 31 by rw [o3, va_up_ne _ _ (by decide)]).trans t2_31
  have t3_32 := (show ev3 32 = ev2 32 by rw [o3, va_up_ne _ _ (by decide)]).trans t2_32
  have t3_33 := (show ev3 33 = ev2 33 by rw [o3, va_up_ne _ _ (by decide)]).trans t2_33
  have t3_20 := (show ev3 20 = ev2 20 by rw [o3, va_up_ne _ _ (by decide)]).trans t2_20
  have t3_18 := (show ev3 18 = ev2 18 by rw [o3, va_up_ne _ _ (by decide)]).trans t2_18
  have t3_19 := (show ev3 19 = ev2 19 by rw [o3, va_up_ne _ _ (by decide)]).trans t2_19
  refine lv_aload_n hx hb d_Cv_step_40 rfl (lv_at hl 0 rfl) ?_
  refine wv_getf hx hb h 18 (by decide) (fs := [.ref (ad 19), .ref (ad 21), .ref (ad 22), .ref (ad 23), .ref (ad 24), .ref (ad 25), .ref (ad 26), .ref (ad 27), .ref (ad 28), .ref (ad 29), .ref (ad 30), .ref (ad 31), .ref (ad 32), .ref (ad 33)]) t3_18 hts (fun w hw => List.mem_cons_of_mem _ (fW_Cv w hw)) hown (ci := 0) (C := "NonceBox$Curve") (T := fT_Cv) (N := 14) rfl 0 (by decide) (hts _ (List.mem_cons_of_mem _ kf_Cv_16)) rfl (v := .ref (ad 19)) rfl d_Cv_step_41 ?_
  refine lv_aload_n hx hb d_Cv_step_44 rfl (lv_at hl 0 rfl) ?_
  refine wv_getf hx hb h 18 (by decide) (fs := [.ref (ad 19), .ref (ad 21), .ref (ad 22), .ref (ad 23), .ref (ad 24), .ref (ad 25), .ref (ad 26), .ref (ad 27), .ref (ad 28), .ref (ad 29), .ref (ad 30), .ref (ad 31), .ref (ad 32), .ref (ad 33)]) t3_18 hts (fun w hw => List.mem_cons_of_mem _ (fW_Cv w hw)) hown (ci := 0) (C := "NonceBox$Curve") (T := fT_Cv) (N := 14) rfl 9 (by decide) (hts _ (List.mem_cons_of_mem _ kf_Cv_52)) rfl (v := .ref (ad 29)) rfl d_Cv_step_45 ?_
  refine lv_aload_n hx hb d_Cv_step_48 rfl (lv_at hl 0 rfl) ?_
  refine wv_getf hx hb h 18 (by decide) (fs := [.ref (ad 19), .ref (ad 21), .ref (ad 22), .ref (ad 23), .ref (ad 24), .ref (ad 25), .ref (ad 26), .ref (ad 27), .ref (ad 28), .ref (ad 29), .ref (ad 30), .ref (ad 31), .ref (ad 32), .ref (ad 33)]) t3_18 hts (fun w hw => List.mem_cons_of_mem _ (fW_Cv w hw)) hown (ci := 0) (C := "NonceBox$Curve") (T := fT_Cv) (N := 14) rfl 8 (by decide) (hts _ (List.mem_cons_of_mem _ kf_Cv_49)) rfl (v := .ref (ad 28)) rfl d_Cv_step_49 ?_
  refine lv_aload_n hx hb d_Cv_step_52 rfl (lv_at hl 0 rfl) ?_
  refine wv_getf hx hb h 18 (by decide) (fs := [.ref (ad 19), .ref (ad 21), .ref (ad 22), .ref (ad 23), .ref (ad 24), .ref (ad 25), .ref (ad 26), .ref (ad 27), .ref (ad 28), .ref (ad 29), .ref (ad 30), .ref (ad 31), .ref (ad 32), .ref (ad 33)]) t3_18 hts (fun w hw => List.mem_cons_of_mem _ (fW_Cv w hw)) hown (ci := 0) (C := "NonceBox$Curve") (T := fT_Cv) (N := 14) rfl 9 (by decide) (hts _ (List.mem_cons_of_mem _ kf_Cv_52)) rfl (v := .ref (ad 29)) rfl d_Cv_step_53 ?_
  refine wv_V (As := [.ref (ad 29), .ref (ad 28), .ref (ad 29)]) (rest := []) (k := 3) ⟨hx, hb, hml, hown, hts⟩ h 19 (by decide) (C := "NonceBox$Field") t3_19 rfl (m_Fd_times l G A ad ev3 19 20 10 21 19 608 (by decide) t3_19 (by decide) (by decide) 29 28 29 (pl Rc Rd) (mi Ra Rb) (pl Rc Rd) zW (by decide) (by decide) (by decide) (by decide) t3_29 t3_28 t3_29 t3_20 (by decide) (by decide) (by decide) (by decide) (by decide)) kc_Fd_times kl_Cv_82 km_Fd_times kv_Fd_times ki_Fd (by decide +kernel) ⟨rfl, rfl, Nat.le_of_ble_eq_true rfl, Nat.le_of_ble_eq_true rfl⟩ hl.1 rfl rfl (Nat.le_of_ble_eq_true rfl) ⟨Nat.le_refl _, Nat.le_refl _⟩ d_Cv_step_56 ?_
  intro ov ev4 H locs hp h
  rw [hp.1]
  refine W.eq (g2 := F0 m 59 ls []) rfl ?_
  have o4 : ev4 = (va_up (va_up ev3 20 (eJ G 20 (wdC (pl Rc Rd) (mi Ra Rb) 10))) 29 (eJ G 10 (stG Ra Rb Rc Rd))) := hp.2
  have t4_20 : ev4 20 = eJ G 20 (wdC (pl Rc Rd) (mi Ra Rb) 10) := by rw [o4, va_up_ne _ _ (by decide), va_up_self]
  have t4_29 : ev4 29 = eJ G 10 (stG Ra Rb Rc Rd) := by rw [o4, va_up_self]
  have t4_22 := (show ev4 22 = ev3 22 by rw [o4, va_up_ne _ _ (by decide), va_up_ne _ _ (by decide)]).trans t3_22
  have t4_23 := (show ev4 23 = ev3 23 by rw [o4, va_up_ne _ _ (by decide), va_up_ne _ _ (by decide)]).trans t3_23
  have t4_24 := (show ev4 24 = ev3 24 by rw [o4, va_up_ne _ _ (by decide), va_up_ne _ _ (by decide)]).trans t3_24
  have t4_25 := (show ev4 25 = ev3 25 by rw [o4, va_up_ne _ _ (by decide), va_up_ne _ _ (by decide)]).trans t3_25
  have t4_26 := (show ev4 26 = ev3 26 by rw [o4, va_up_ne _ _ (by decide), va_up_ne _ _ (by decide)]).trans t3_26
  have t4_27 := (show ev4 27 = ev3 27 by rw [o4, va_up_ne _ _ (by decide), va_up_ne _ _ (by decide)]).trans t3_27
  have t4_28 := (show ev4 28 = ev3 28 by rw [o4, va_up_ne _ _ (by decide), va_up_ne _ _ (by decide)]).trans t3_28
  have t4_30 := (show ev4 30 = ev3 30 by rw [o4, va_up_ne _ _ (by decide), va_up_ne _ _ (by decide)]).trans t3_30
  have t4_31 := (show ev4 31 = ev3 31 by rw [o4, va_up_ne _ _ (by decide), va_up_ne _ _ (by decide)]).trans t3_31
  have t4_32 := (show ev4 32 = ev3 32 by rw [o4, va_up_ne _ _ (by decide), va_up_ne _ _ (by decide)]).trans t3_32
  have t4_33 := (show ev4 33 = ev3 33 by rw [o4, va_up_ne _ _ (by decide), va_up_ne _ _ (by decide)]).trans t3_33
  have t4_18 := (show ev4 18 = ev3 18 by rw [o4, va_up_ne _ _ (by decide), va_up_ne _ _ (by decide)]).trans t3_18
  have t4_19 := (show ev4 19 = ev3 19 by rw [o4, va_up_ne _ _ (by decide), va_up_ne _ _ (by decide)]).trans t3_19
  refine lv_aload_n hx hb d_Cv_step_59 rfl (lv_at hl 0 rfl) ?_
  refine wv_getf hx hb h 18 (by decide) (fs := [.ref (ad 19), .ref (ad 21), .ref (ad 22), .ref (ad 23), .ref (ad 24), .ref (ad 25), .ref (ad 26), .ref (ad 27), .ref (ad 28), .ref (ad 29), .ref (ad 30), .ref (ad 31), .ref (ad 32), .ref (ad 33)]) t4_18 hts (fun w hw => List.mem_cons_of_mem _ (fW_Cv w hw)) hown (ci := 0) (C := "NonceBox$Curve") (T := fT_Cv) (N := 14) rfl 0 (by decide) (hts _ (List.mem_cons_of_mem _ kf_Cv_16)) rfl (v := .ref (ad 19)) rfl d_Cv_step_60 ?_
  refine lv_aload_n hx hb d_Cv_step_63 rfl (lv_at hl 3 rfl) ?_
  refine lv_aload hx hb d_Cv_step_64 (lv_at hl 4 rfl) ?_
  refine lv_aload_n hx hb d_Cv_step_66 rfl (lv_at hl 0 rfl) ?_
  refine wv_getf hx hb h 18 (by decide) (fs := [.ref (ad 19), .ref (ad 21), .ref (ad 22), .ref (ad 23), .ref (ad 24), .ref (ad 25), .ref (ad 26), .ref (ad 27), .ref (ad 28), .ref (ad 29), .ref (ad 30), .ref (ad 31), .ref (ad 32), .ref (ad 33)]) t4_18 hts (fun w hw => List.mem_cons_of_mem _ (fW_Cv w hw)) hown (ci := 0) (C := "NonceBox$Curve") (T := fT_Cv) (N := 14) rfl 10 (by decide) (hts _ (List.mem_cons_of_mem _ kf_Cv_55)) rfl (v := .ref (ad 30)) rfl d_Cv_step_67 ?_
  refine wv_V (As := [.ref (ad 24), .ref (ad 25), .ref (ad 30)]) (rest := []) (k := 3) ⟨hx, hb, hml, hown, hts⟩ h 19 (by decide) (C := "NonceBox$Field") t4_19 rfl (m_Fd_minus l G A ad ev4 19 20 10 21 19 608 (by decide) t4_19 (by decide) (by decide) 24 25 30 Rc Rd zH (by decide) (by decide) (by decide) t4_24 t4_25 t4_30 (by decide)) kc_Fd_minus kl_Cv_114 km_Fd_minus kv_Fd_minus ki_Fd (by decide +kernel) ⟨rfl, rfl, Nat.le_of_ble_eq_true rfl, Nat.le_of_ble_eq_true rfl⟩ hl.1 rfl rfl (Nat.le_of_ble_eq_true rfl) ⟨Nat.le_refl _, Nat.le_refl _⟩ d_Cv_step_70 ?_
  intro ov ev5 H locs hp h
  rw [hp.1]
  refine W.eq (g2 := F0 m 73 ls []) rfl ?_
  have o5 : ev5 = (va_up ev4 30 (eJ G 10 (mi Rc Rd))) := hp.2
  have t5_30 : ev5 30 = eJ G 10 (mi Rc Rd) := by rw [o5, va_up_self]
  have t5_22 := (show ev5 22 = ev4 22 by rw [o5, va_up_ne _ _ (by decide)]).trans t4_22
  have t5_23 := (show ev5 23 = ev4 23 by rw [o5, va_up_ne _ _ (by decide)]).trans t4_23
  have t5_24 := (show ev5 24 = ev4 24 by rw [o5, va_up_ne _ _ (by decide)]).trans t4_24
  have t5_25 := (show ev5 25 = ev4 25 by rw [o5, va_up_ne _ _ (by decide)]).trans t4_25
  have t5_26 := (show ev5 26 = ev4 26 by rw [o5, va_up_ne _ _ (by decide)]).trans t4_26
  have t5_27 := (show ev5 27 = ev4 27 by rw [o5, va_up_ne _ _ (by decide)]).trans t4_27
  have t5_28 := (show ev5 28 = ev4 28 by rw [o5, va_up_ne _ _ (by decide)]).trans t4_28
  have t5_29 := (show ev5 29 = ev4 29 by rw [o5, va_up_ne _ _ (by decide)]).trans t4_29
  have t5_31 := (show ev5 31 = ev4 31 by rw [o5, va_up_ne _ _ (by decide)]).trans t4_31
  have t5_32 := (show ev5 32 = ev4 32 by rw [o5, va_up_ne _ _ (by decide)]).trans t4_32
  have t5_33 := (show ev5 33 = ev4 33 by rw [o5, va_up_ne _ _ (by decide)]).trans t4_33
  have t5_20 := (show ev5 20 = ev4 20 by rw [o5, va_up_ne _ _ (by decide)]).trans t4_20
  have t5_18 := (show ev5 18 = ev4 18 by rw [o5, va_up_ne _ _ (by decide)]).trans t4_18
  have t5_19 := (show ev5 19 = ev4 19 by rw [o5, va_up_ne _ _ (by decide)]).trans t4_19
  refine lv_aload_n hx hb d_Cv_step_73 rfl (lv_at hl 0 rfl) ?_
  refine wv_getf hx hb h 18 (by decide) (fs := [.ref (ad 19), .ref (ad 21), .ref (ad 22), .ref (ad 23), .ref (ad 24), .ref (ad 25), .ref (ad 26), .ref (ad 27), .ref (ad 28), .ref (ad 29), .ref (ad 30), .ref (ad 31), .ref (ad 32), .ref (ad 33)]) t5_18 hts (fun w hw => List.mem_cons_of_mem _ (fW_Cv w hw)) hown (ci := 0) (C := "NonceBox$Curve") (T := fT_Cv) (N := 14) rfl 0 (by decide) (hts _ (List.mem_cons_of_mem _ kf_Cv_16)) rfl (v := .ref (ad 19)) rfl d_Cv_step_74 ?_
  refine lv_aload_n hx hb d_Cv_step_77 rfl (lv_at hl 0 rfl) ?_
  refine wv_getf hx hb h 18 (by decide) (fs := [.ref (ad 19), .ref (ad 21), .ref (ad 22), .ref (ad 23), .ref (ad 24), .ref (ad 25), .ref (ad 26), .ref (ad 27), .ref (ad 28), .ref (ad 29), .ref (ad 30), .ref (ad 31), .ref (ad 32), .ref (ad 33)]) t5_18 hts (fun w hw => List.mem_cons_of_mem _ (fW_Cv w hw)) hown (ci := 0) (C := "NonceBox$Curve") (T := fT_Cv) (N := 14) rfl 10 (by decide) (hts _ (List.mem_cons_of_mem _ kf_Cv_55)) rfl (v := .ref (ad 30)) rfl d_Cv_step_78 ?_
  refine lv_aload_n hx hb d_Cv_step_81 rfl (lv_at hl 0 rfl) ?_
  refine wv_getf hx hb h 18 (by decide) (fs := [.ref (ad 19), .ref (ad 21), .ref (ad 22), .ref (ad 23), .ref (ad 24), .ref (ad 25), .ref (ad 26), .ref (ad 27), .ref (ad 28), .ref (ad 29), .ref (ad 30), .ref (ad 31), .ref (ad 32), .ref (ad 33)]) t5_18 hts (fun w hw => List.mem_cons_of_mem _ (fW_Cv w hw)) hown (ci := 0) (C := "NonceBox$Curve") (T := fT_Cv) (N := 14) rfl 7 (by decide) (hts _ (List.mem_cons_of_mem _ kf_Cv_46)) rfl (v := .ref (ad 27)) rfl d_Cv_step_82 ?_
  refine lv_aload_n hx hb d_Cv_step_85 rfl (lv_at hl 0 rfl) ?_
  refine wv_getf hx hb h 18 (by decide) (fs := [.ref (ad 19), .ref (ad 21), .ref (ad 22), .ref (ad 23), .ref (ad 24), .ref (ad 25), .ref (ad 26), .ref (ad 27), .ref (ad 28), .ref (ad 29), .ref (ad 30), .ref (ad 31), .ref (ad 32), .ref (ad 33)]) t5_18 hts (fun w hw => List.mem_cons_of_mem _ (fW_Cv w hw)) hown (ci := 0) (C := "NonceBox$Curve") (T := fT_Cv) (N := 14) rfl 10 (by decide) (hts _ (List.mem_cons_of_mem _ kf_Cv_55)) rfl (v := .ref (ad 30)) rfl d_Cv_step_86 ?_
  refine wv_V (As := [.ref (ad 30), .ref (ad 27), .ref (ad 30)]) (rest := []) (k := 3) ⟨hx, hb, hml, hown, hts⟩ h 19 (by decide) (C := "NonceBox$Field") t5_19 rfl (m_Fd_times l G A ad ev5 19 20 10 21 19 608 (by decide) t5_19 (by decide) (by decide) 30 27 30 (mi Rc Rd) (pl Ra Rb) (mi Rc Rd) (wdC (pl Rc Rd) (mi Ra Rb) 10) (by decide) (by decide) (by decide) (by decide) t5_30 t5_27 t5_30 t5_20 (by decide) (by decide) (by decide) (by decide) (by decide)) kc_Fd_times kl_Cv_82 km_Fd_times kv_Fd_times ki_Fd (by decide +kernel) ⟨rfl, rfl, Nat.le_of_ble_eq_true rfl, Nat.le_of_ble_eq_true rfl⟩ hl.1 rfl rfl (Nat.le_of_ble_eq_true rfl) ⟨Nat.le_refl _, Nat.le_refl _⟩ d_Cv_step_89 ?_
  intro ov ev6 H locs hp h
  rw [hp.1]
  refine W.eq (g2 := F0 m 92 ls []) rfl ?_
  have o6 : ev6 = (va_up (va_up ev5 20 (eJ G 20 (wdC (mi Rc Rd) (pl Ra Rb) 10))) 30 (eJ G 10 (stH Ra Rb Rc Rd))) := hp.2
  have t6_20 : ev6 20 = eJ G 20 (wdC (mi Rc Rd) (pl Ra Rb) 10) := by rw [o6, va_up_ne _ _ (by decide), va_up_self]
  have t6_30 : ev6 30 = eJ G 10 (stH Ra Rb Rc Rd) := by rw [o6, va_up_self]
  have t6_22 := (show ev6 22 = ev5 22 by rw [o6, va_up_ne _ _ (by decide), va_up_ne _ _ (by decide)]).trans t5_22
  have t6_23 := (show ev6 23 = ev5 23 by rw [o6, va_up_ne _ _ (by decide), va_up_ne _ _ (by decide)]).trans t5_23
  have t6_24 := (show ev6 24 = ev5 24 by rw [o6, va_up_ne _ _ (by decide), va_up_ne _ _ (by decide)]).trans t5_24
  have t6_25 := (show ev6 25 = ev5 25 by rw [o6, va_up_ne _ _ (by decide), va_up_ne _ _ (by decide)]).trans t5_25
  have t6_26 := (show ev6 26 = ev5 26 by rw [o6, va_up_ne _ _ (by decide), va_up_ne _ _ (by decide)]).trans t5_26
  have t6_27 := (show ev6 27 = ev5 27 by rw [o6, va_up_ne _ _ (by decide), va_up_ne _ _ (by decide)]).trans t5_27
  have t6_28 := (show ev6 28 = ev5 28 by rw [o6, va_up_ne _ _ (by decide), va_up_ne _ _ (by decide)]).trans t5_28
  have t6_29 := (show ev6 29 = ev5 29 by rw [o6, va_up_ne _ _ (by decide), va_up_ne _ _ (by decide)]).trans t5_29
  have t6_31 := (show ev6 31 = ev5 31 by rw [o6, va_up_ne _ _ (by decide), va_up_ne _ _ (by decide)]).trans t5_31
  have t6_32 := (show ev6 32 = ev5 32 by rw [o6, va_up_ne _ _ (by decide), va_up_ne _ _ (by decide)]).trans t5_32
  have t6_33 := (show ev6 33 = ev5 33 by rw [o6, va_up_ne _ _ (by decide), va_up_ne _ _ (by decide)]).trans t5_33
  have t6_18 := (show ev6 18 = ev5 18 by rw [o6, va_up_ne _ _ (by decide), va_up_ne _ _ (by decide)]).trans t5_18
  have t6_19 := (show ev6 19 = ev5 19 by rw [o6, va_up_ne _ _ (by decide), va_up_ne _ _ (by decide)]).trans t5_19
  refine lv_aload_n hx hb d_Cv_step_92 rfl (lv_at hl 0 rfl) ?_
  refine wv_getf hx hb h 18 (by decide) (fs := [.ref (ad 19), .ref (ad 21), .ref (ad 22), .ref (ad 23), .ref (ad 24), .ref (ad 25), .ref (ad 26), .ref (ad 27), .ref (ad 28), .ref (ad 29), .ref (ad 30), .ref (ad 31), .ref (ad 32), .ref (ad 33)]) t6_18 hts (fun w hw => List.mem_cons_of_mem _ (fW_Cv w hw)) hown (ci := 0) (C := "NonceBox$Curve") (T := fT_Cv) (N := 14) rfl 0 (by decide) (hts _ (List.mem_cons_of_mem _ kf_Cv_16)) rfl (v := .ref (ad 19)) rfl d_Cv_step_93 ?_
  refine lv_aload_n hx hb d_Cv_step_96 rfl (lv_at hl 0 rfl) ?_
  refine wv_getf hx hb h 18 (by decide) (fs := [.ref (ad 19), .ref (ad 21), .ref (ad 22), .ref (ad 23), .ref (ad 24), .ref (ad 25), .ref (ad 26), .ref (ad 27), .ref (ad 28), .ref (ad 29), .ref (ad 30), .ref (ad 31), .ref (ad 32), .ref (ad 33)]) t6_18 hts (fun w hw => List.mem_cons_of_mem _ (fW_Cv w hw)) hown (ci := 0) (C := "NonceBox$Curve") (T := fT_Cv) (N := 14) rfl 7 (by decide) (hts _ (List.mem_cons_of_mem _ kf_Cv_46)) rfl (v := .ref (ad 27)) rfl d_Cv_step_97 ?_
  refine lv_aload_n hx hb d_Cv_step_100 rfl (lv_at hl 0 rfl) ?_
  refine wv_getf hx hb h 18 (by decide) (fs := [.ref (ad 19), .ref (ad 21), .ref (ad 22), .ref (ad 23), .ref (ad 24), .ref (ad 25), .ref (ad 26), .ref (ad 27), .ref (ad 28), .ref (ad 29), .ref (ad 30), .ref (ad 31), .ref (ad 32), .ref (ad 33)]) t6_18 hts (fun w hw => List.mem_cons_of_mem _ (fW_Cv w hw)) hown (ci := 0) (C := "NonceBox$Curve") (T := fT_Cv) (N := 14) rfl 7 (by decide) (hts _ (List.mem_cons_of_mem _ kf_Cv_46)) rfl (v := .ref (ad 27)) rfl d_Cv_step_101 ?_
  refine lv_aload_n hx hb d_Cv_step_104 rfl (lv_at hl 0 rfl) ?_
  refine wv_getf hx hb h 18 (by decide) (fs := [.ref (ad 19), .ref (ad 21), .ref (ad 22), .ref (ad 23), .ref (ad 24), .ref (ad 25), .ref (ad 26), .ref (ad 27), .ref (ad 28), .ref (ad 29), .ref (ad 30), .ref (ad 31), .ref (ad 32), .ref (ad 33)]) t6_18 hts (fun w hw => List.mem_cons_of_mem _ (fW_Cv w hw)) hown (ci := 0) (C := "NonceBox$Curve") (T := fT_Cv) (N := 14) rfl 11 (by decide) (hts _ (List.mem_cons_of_mem _ kf_Cv_58)) rfl (v := .ref (ad 31)) rfl d_Cv_step_105 ?_
  refine wv_V (As := [.ref (ad 27), .ref (ad 27), .ref (ad 31)]) (rest := []) (k := 3) ⟨hx, hb, hml, hown, hts⟩ h 19 (by decide) (C := "NonceBox$Field") t6_19 rfl (m_Fd_times l G A ad ev6 19 20 10 21 19 608 (by decide) t6_19 (by decide) (by decide) 27 27 31 (pl Ra Rb) (pl Ra Rb) zQ (wdC (mi Rc Rd) (pl Ra Rb) 10) (by decide) (by decide) (by decide) (by decide) t6_27 t6_27 t6_31 t6_20 (by decide) (by decide) (by decide) (by decide) (by decide)) kc_Fd_times kl_Cv_82 km_Fd_times kv_Fd_times ki_Fd (by decide +kernel) ⟨rfl, rfl, Nat.le_of_ble_eq_true rfl, Nat.le_of_ble_eq_true rfl⟩ hl.1 rfl rfl (Nat.le_of_ble_eq_true rfl) ⟨Nat.le_refl _, Nat.le_refl _⟩ d_Cv_step_108 ?_
  intro ov ev7 H locs hp h
  rw [hp.1]
  refine W.eq (g2 := F0 m 111 ls []) rfl ?_
  have o7 : ev7 = (va_up (va_up ev6 20 (eJ G 20 (wdC (pl Ra Rb) (pl Ra Rb) 10))) 31 (eJ G 10 (stQ Ra Rb))) := hp.2
  have t7_20 : ev7 20 = eJ G 20 (wdC (pl Ra Rb) (pl Ra Rb) 10) := by rw [o7, va_up_ne _ _ (by decide), va_up_self]
  have t7_31 : ev7 31 = eJ G 10 (stQ Ra Rb) := by rw [o7, va_up_self]
  have t7_22 := (show ev7 22 = ev6 22 by rw [o7, va_up_ne _ _ (by decide), va_up_ne _ _ (by decide)]).trans t6_22
  have t7_23 := (show ev7 23 = ev6 23 by rw [o7, va_up_ne _ _ (by decide), va_up_ne _ _ (by decide)]).trans t6_23
  have t7_24 := (show ev7 24 = ev6 24 by rw [o7, va_up_ne _ _ (by decide), va_up_ne _ _ (by decide)]).trans t6_24
  have t7_25 := (show ev7 25 = ev6 25 by rw [o7, va_up_ne _ _ (by decide), va_up_ne _ _ (by decide)]).trans t6_25
  have t7_26 := (show ev7 26 = ev6 26 by rw [o7, va_up_ne _ _ (by decide), va_up_ne _ _ (by decide)]).trans t6_26
  have t7_27 := (show ev7 27 = ev6 27 by rw [o7, va_up_ne _ _ (by decide), va_up_ne _ _ (by decide)]).trans t6_27
  have t7_28 := (show ev7 28 = ev6 28 by rw [o7, va_up_ne _ _ (by decide), va_up_ne _ _ (by decide)]).trans t6_28
  have t7_29 := (show ev7 29 = ev6 29 by rw [o7, va_up_ne _ _ (by decide), va_up_ne _ _ (by decide)]).trans t6_29
  have t7_30 := (show ev7 30 = ev6 30 by rw [o7, va_up_ne _ _ (by decide), va_up_ne _ _ (by decide)]).trans t6_30
  have t7_32 := (show ev7 32 = ev6 32 by rw [o7, va_up_ne _ _ (by decide), va_up_ne _ _ (by decide)]).trans t6_32
  have t7_33 := (show ev7 33 = ev6 33 by rw [o7, va_up_ne _ _ (by decide), va_up_ne _ _ (by decide)]).trans t6_33
  have t7_18 := (show ev7 18 = ev6 18 by rw [o7, va_up_ne _ _ (by decide), va_up_ne _ _ (by decide)]).trans t6_18
  have t7_19 := (show ev7 19 = ev6 19 by rw [o7, va_up_ne _ _ (by decide), va_up_ne _ _ (by decide)]).trans t6_19
  refine lv_aload_n hx hb d_Cv_step_111 rfl (lv_at hl 0 rfl) ?_
  refine wv_getf hx hb h 18 (by decide) (fs := [.ref (ad 19), .ref (ad 21), .ref (ad 22), .ref (ad 23), .ref (ad 24), .ref (ad 25), .ref (ad 26), .ref (ad 27), .ref (ad 28), .ref (ad 29), .ref (ad 30), .ref (ad 31), .ref (ad 32), .ref (ad 33)]) t7_18 hts (fun w hw => List.mem_cons_of_mem _ (fW_Cv w hw)) hown (ci := 0) (C := "NonceBox$Curve") (T := fT_Cv) (N := 14) rfl 0 (by decide) (hts _ (List.mem_cons_of_mem _ kf_Cv_16)) rfl (v := .ref (ad 19)) rfl d_Cv_step_112 ?_
  refine lv_aload_n hx hb d_Cv_step_115 rfl (lv_at hl 0 rfl) ?_
  refine wv_getf hx hb h 18 (by decide) (fs := [.ref (ad 19), .ref (ad 21), .ref (ad 22), .ref (ad 23), .ref (ad 24), .ref (ad 25), .ref (ad 26), .ref (ad 27), .ref (ad 28), .ref (ad 29), .ref (ad 30), .ref (ad 31), .ref (ad 32), .ref (ad 33)]) t7_18 hts (fun w hw => List.mem_cons_of_mem _ (fW_Cv w hw)) hown (ci := 0) (C := "NonceBox$Curve") (T := fT_Cv) (N := 14) rfl 8 (by decide) (hts _ (List.mem_cons_of_mem _ kf_Cv_49)) rfl (v := .ref (ad 28)) rfl d_Cv_step_116 ?_
  refine lv_aload_n hx hb d_Cv_step_119 rfl (lv_at hl 0 rfl) ?_
  refine wv_getf hx hb h 18 (by decide) (fs := [.ref (ad 19), .ref (ad 21), .ref (ad 22), .ref (ad 23), .ref (ad 24), .ref (ad 25), .ref (ad 26), .ref (ad 27), .ref (ad 28), .ref (ad 29), .ref (ad 30), .ref (ad 31), .ref (ad 32), .ref (ad 33)]) t7_18 hts (fun w hw => List.mem_cons_of_mem _ (fW_Cv w hw)) hown (ci := 0) (C := "NonceBox$Curve") (T := fT_Cv) (N := 14) rfl 8 (by decide) (hts _ (List.mem_cons_of_mem _ kf_Cv_49)) rfl (v := .ref (ad 28)) rfl d_Cv_step_120 ?_
  refine lv_aload_n hx hb d_Cv_step_123 rfl (lv_at hl 0 rfl) ?_
  refine wv_getf hx hb h 18 (by decide) (fs := [.ref (ad 19), .ref (ad 21), .ref (ad 22), .ref (ad 23), .ref (ad 24), .ref (ad 25), .ref (ad 26), .ref (ad 27), .ref (ad 28), .ref (ad 29), .ref (ad 30), .ref (ad 31), .ref (ad 32), .ref (ad 33)]) t7_18 hts (fun w hw => List.mem_cons_of_mem _ (fW_Cv w hw)) hown (ci := 0) (C := "NonceBox$Curve") (T := fT_Cv) (N := 14) rfl 12 (by decide) (hts _ (List.mem_cons_of_mem _ kf_Cv_61)) rfl (v := .ref (ad 32)) rfl d_Cv_step_124 ?_
  refine wv_V (As := [.ref (ad 28), .ref (ad 28), .ref (ad 32)]) (rest := []) (k := 3) ⟨hx, hb, hml, hown, hts⟩ h 19 (by decide) (C := "NonceBox$Field") t7_19 rfl (m_Fd_times l G A ad ev7 19 20 10 21 19 608 (by decide) t7_19 (by decide) (by decide) 28 28 32 (mi Ra Rb) (mi Ra Rb) zR (wdC (pl Ra Rb) (pl Ra Rb) 10) (by decide) (by decide) (by decide) (by decide) t7_28 t7_28 t7_32 t7_20 (by decide) (by decide) (by decide) (by decide) (by decide)) kc_Fd_times kl_Cv_82 km_Fd_times kv_Fd_times ki_Fd (by decide +kernel) ⟨rfl, rfl, Nat.le_of_ble_eq_true rfl, Nat.le_of_ble_eq_true rfl⟩ hl.1 rfl rfl (Nat.le_of_ble_eq_true rfl) ⟨Nat.le_refl _, Nat.le_refl _⟩ d_Cv_step_127 ?_
  intro ov ev8 H locs hp h
  rw [hp.1]
  refine W.eq (g2 := F0 m 130 ls []) rfl ?_
  have o8 : ev8 = (va_up (va_up ev7 20 (eJ G 20 (wdC (mi Ra Rb) (mi Ra Rb) 10))) 32 (eJ G 10 (stR Ra Rb))) := hp.2
  have t8_20 : ev8 20 = eJ G 20 (wdC (mi Ra Rb) (mi Ra Rb) 10) := by rw [o8, va_up_ne _ _ (by decide), va_up_self]
  have t8_32 : ev8 32 = eJ G 10 (stR Ra Rb) := by rw [o8, va_up_self]
  have t8_22 := (show ev8 22 = ev7 22 by rw [o8, va_up_ne _ _ (by decide), va_up_ne _ _ (by decide)]).trans t7_22
  have t8_23 := (show ev8 23 = ev7 23 by rw [o8, va_up_ne _ _ (by decide), va_up_ne _ _ (by decide)]).trans t7_23
  have t8_24 := (show ev8 24 = ev7 24 by rw [o8, va_up_ne _ _ (by decide), va_up_ne _ _ (by decide)]).trans t7_24
  have t8_25 := (show ev8 25 = ev7 25 by rw [o8, va_up_ne _ _ (by decide), va_up_ne _ _ (by decide)]).trans t7_25
  have t8_26 := (show ev8 26 = ev7 26 by rw [o8, va_up_ne _ _ (by decide), va_up_ne _ _ (by decide)]).trans t7_26
  have t8_27 := (show ev8 27 = ev7 27 by rw [o8, va_up_ne _ _ (by decide), va_up_ne _ _ (by decide)]).trans t7_27
  have t8_28 := (show ev8 28 = ev7 28 by rw [o8, va_up_ne _ _ (by decide), va_up_ne _ _ (by decide)]).trans t7_28
  have t8_29 := (show ev8 29 = ev7 29 by rw [o8, va_up_ne _ _ (by decide), va_up_ne _ _ (by decide)]).trans t7_29
  have t8_30 := (show ev8 30 = ev7 30 by rw [o8, va_up_ne _ _ (by decide), va_up_ne _ _ (by decide)]).trans t7_30
  have t8_31 := (show ev8 31 = ev7 31 by rw [o8, va_up_ne _ _ (by decide), va_up_ne _ _ (by decide)]).trans t7_31
  have t8_33 := (show ev8 33 = ev7 33 by rw [o8, va_up_ne _ _ (by decide), va_up_ne _ _ (by decide)]).trans t7_33
  have t8_18 := (show ev8 18 = ev7 18 by rw [o8, va_up_ne _ _ (by decide), va_up_ne _ _ (by decide)]).trans t7_18
  have t8_19 := (show ev8 19 = ev7 19 by rw [o8, va_up_ne _ _ (by decide), va_up_ne _ _ (by decide)]).trans t7_19
  refine lv_aload_n hx hb d_Cv_step_130 rfl (lv_at hl 0 rfl) ?_
  refine wv_getf hx hb h 18 (by decide) (fs := [.ref (ad 19), .ref (ad 21), .ref (ad 22), .ref (ad 23), .ref (ad 24), .ref (ad 25), .ref (ad 26), .ref (ad 27), .ref (ad 28), .ref (ad 29), .ref (ad 30), .ref (ad 31), .ref (ad 32), .ref (ad 33)]) t8_18 hts (fun w hw => List.mem_cons_of_mem _ (fW_Cv w hw)) hown (ci := 0) (C := "NonceBox$Curve") (T := fT_Cv) (N := 14) rfl 0 (by decide) (hts _ (List.mem_cons_of_mem _ kf_Cv_16)) rfl (v := .ref (ad 19)) rfl d_Cv_step_131 ?_
  refine lv_aload_n hx hb d_Cv_step_134 rfl (lv_at hl 0 rfl) ?_
  refine wv_getf hx hb h 18 (by decide) (fs := [.ref (ad 19), .ref (ad 21), .ref (ad 22), .ref (ad 23), .ref (ad 24), .ref (ad 25), .ref (ad 26), .ref (ad 27), .ref (ad 28), .ref (ad 29), .ref (ad 30), .ref (ad 31), .ref (ad 32), .ref (ad 33)]) t8_18 hts (fun w hw => List.mem_cons_of_mem _ (fW_Cv w hw)) hown (ci := 0) (C := "NonceBox$Curve") (T := fT_Cv) (N := 14) rfl 11 (by decide) (hts _ (List.mem_cons_of_mem _ kf_Cv_58)) rfl (v := .ref (ad 31)) rfl d_Cv_step_135 ?_
  refine lv_aload_n hx hb d_Cv_step_138 rfl (lv_at hl 0 rfl) ?_
  refine wv_getf hx hb h 18 (by decide) (fs := [.ref (ad 19), .ref (ad 21), .ref (ad 22), .ref (ad 23), .ref (ad 24), .ref (ad 25), .ref (ad 26), .ref (ad 27), .ref (ad 28), .ref (ad 29), .ref (ad 30), .ref (ad 31), .ref (ad 32), .ref (ad 33)]) t8_18 hts (fun w hw => List.mem_cons_of_mem _ (fW_Cv w hw)) hown (ci := 0) (C := "NonceBox$Curve") (T := fT_Cv) (N := 14) rfl 12 (by decide) (hts _ (List.mem_cons_of_mem _ kf_Cv_61)) rfl (v := .ref (ad 32)) rfl d_Cv_step_139 ?_
  refine lv_aload_n hx hb d_Cv_step_142 rfl (lv_at hl 0 rfl) ?_
  refine wv_getf hx hb h 18 (by decide) (fs := [.ref (ad 19), .ref (ad 21), .ref (ad 22), .ref (ad 23), .ref (ad 24), .ref (ad 25), .ref (ad 26), .ref (ad 27), .ref (ad 28), .ref (ad 29), .ref (ad 30), .ref (ad 31), .ref (ad 32), .ref (ad 33)]) t8_18 hts (fun w hw => List.mem_cons_of_mem _ (fW_Cv w hw)) hown (ci := 0) (C := "NonceBox$Curve") (T := fT_Cv) (N := 14) rfl 13 (by decide) (hts _ (List.mem_cons_of_mem _ kf_Cv_64)) rfl (v := .ref (ad 33)) rfl d_Cv_step_143 ?_
  refine wv_V (As := [.ref (ad 31), .ref (ad 32), .ref (ad 33)]) (rest := []) (k := 3) ⟨hx, hb, hml, hown, hts⟩ h 19 (by decide) (C := "NonceBox$Field") t8_19 rfl (m_Fd_minus l G A ad ev8 19 20 10 21 19 608 (by decide) t8_19 (by decide) (by decide) 31 32 33 (stQ Ra Rb) (stR Ra Rb) zT (by decide) (by decide) (by decide) t8_31 t8_32 t8_33 (by decide)) kc_Fd_minus kl_Cv_114 km_Fd_minus kv_Fd_minus ki_Fd (by decide +kernel) ⟨rfl, rfl, Nat.le_of_ble_eq_true rfl, Nat.le_of_ble_eq_true rfl⟩ hl.1 rfl rfl (Nat.le_of_ble_eq_true rfl) ⟨Nat.le_refl _, Nat.le_refl _⟩ d_Cv_step_146 ?_
  intro ov ev9 H locs hp h
  rw [hp.1]
  refine W.eq (g2 := F0 m 149 ls []) rfl ?_
  have o9 : ev9 = (va_up ev8 33 (eJ G 10 (stT Ra Rb))) := hp.2
  have t9_33 : ev9 33 = eJ G 10 (stT Ra Rb) := by rw [o9, va_up_self]
  have t9_22 := (show ev9 22 = ev8 22 by rw [o9, va_up_ne _ _ (by decide)]).trans t8_22
  have t9_23 := (show ev9 23 = ev8 23 by rw [o9, va_up_ne _ _ (by decide)]).trans t8_23
  have t9_24 := (show ev9 24 = ev8 24 by rw [o9, va_up_ne _ _ (by decide)]).trans t8_24
  have t9_25 := (show ev9 25 = ev8 25 by rw [o9, va_up_ne _ _ (by decide)]).trans t8_25
  have t9_26 := (show ev9 26 = ev8 26 by rw [o9, va_up_ne _ _ (by decide)]).trans t8_26
  have t9_27 := (show ev9 27 = ev8 27 by rw [o9, va_up_ne _ _ (by decide)]).trans t8_27
  have t9_28 := (show ev9 28 = ev8 28 by rw [o9, va_up_ne _ _ (by decide)]).trans t8_28
  have t9_29 := (show ev9 29 = ev8 29 by rw [o9, va_up_ne _ _ (by decide)]).trans t8_29
  have t9_30 := (show ev9 30 = ev8 30 by rw [o9, va_up_ne _ _ (by decide)]).trans t8_30
  have t9_31 := (show ev9 31 = ev8 31 by rw [o9, va_up_ne _ _ (by decide)]).trans t8_31
  have t9_32 := (show ev9 32 = ev8 32 by rw [o9, va_up_ne _ _ (by decide)]).trans t8_32
  have t9_20 := (show ev9 20 = ev8 20 by rw [o9, va_up_ne _ _ (by decide)]).trans t8_20
  have t9_18 := (show ev9 18 = ev8 18 by rw [o9, va_up_ne _ _ (by decide)]).trans t8_18
  have t9_19 := (show ev9 19 = ev8 19 by rw [o9, va_up_ne _ _ (by decide)]).trans t8_19
  refine lv_aload_n hx hb d_Cv_step_149 rfl (lv_at hl 0 rfl) ?_
  refine wv_getf hx hb h 18 (by decide) (fs := [.ref (ad 19), .ref (ad 21), .ref (ad 22), .ref (ad 23), .ref (ad 24), .ref (ad 25), .ref (ad 26), .ref (ad 27), .ref (ad 28), .ref (ad 29), .ref (ad 30), .ref (ad 31), .ref (ad 32), .ref (ad 33)]) t9_18 hts (fun w hw => List.mem_cons_of_mem _ (fW_Cv w hw)) hown (ci := 0) (C := "NonceBox$Curve") (T := fT_Cv) (N := 14) rfl 0 (by decide) (hts _ (List.mem_cons_of_mem _ kf_Cv_16)) rfl (v := .ref (ad 19)) rfl d_Cv_step_150 ?_
  refine lv_aload_n hx hb d_Cv_step_153 rfl (lv_at hl 0 rfl) ?_
  refine wv_getf hx hb h 18 (by decide) (fs := [.ref (ad 19), .ref (ad 21), .ref (ad 22), .ref (ad 23), .ref (ad 24), .ref (ad 25), .ref (ad 26), .ref (ad 27), .ref (ad 28), .ref (ad 29), .ref (ad 30), .ref (ad 31), .ref (ad 32), .ref (ad 33)]) t9_18 hts (fun w hw => List.mem_cons_of_mem _ (fW_Cv w hw)) hown (ci := 0) (C := "NonceBox$Curve") (T := fT_Cv) (N := 14) rfl 9 (by decide) (hts _ (List.mem_cons_of_mem _ kf_Cv_52)) rfl (v := .ref (ad 29)) rfl d_Cv_step_154 ?_
  refine lv_aload_n hx hb d_Cv_step_157 rfl (lv_at hl 0 rfl) ?_
  refine wv_getf hx hb h 18 (by decide) (fs := [.ref (ad 19), .ref (ad 21), .ref (ad 22), .ref (ad 23), .ref (ad 24), .ref (ad 25), .ref (ad 26), .ref (ad 27), .ref (ad 28), .ref (ad 29), .ref (ad 30), .ref (ad 31), .ref (ad 32), .ref (ad 33)]) t9_18 hts (fun w hw => List.mem_cons_of_mem _ (fW_Cv w hw)) hown (ci := 0) (C := "NonceBox$Curve") (T := fT_Cv) (N := 14) rfl 10 (by decide) (hts _ (List.mem_cons_of_mem _ kf_Cv_55)) rfl (v := .ref (ad 30)) rfl d_Cv_step_158 ?_
  refine lv_aload_n hx hb d_Cv_step_161 rfl (lv_at hl 3 rfl) ?_
  refine wv_V (As := [.ref (ad 29), .ref (ad 30), .ref (ad 24)]) (rest := []) (k := 3) ⟨hx, hb, hml, hown, hts⟩ h 19 (by decide) (C := "NonceBox$Field") t9_19 rfl (m_Fd_plus l G A ad ev9 19 20 10 21 19 608 (by decide) t9_19 (by decide) (by decide) 29 30 24 (stG Ra Rb Rc Rd) (stH Ra Rb Rc Rd) Rc (by decide) (by decide) (by decide) t9_29 t9_30 t9_24 (by decide)) kc_Fd_plus kl_Cv_111 km_Fd_plus kv_Fd_plus ki_Fd (by decide +kernel) ⟨rfl, rfl, Nat.le_of_ble_eq_true rfl, Nat.le_of_ble_eq_true rfl⟩ hl.1 rfl rfl (Nat.le_of_ble_eq_true rfl) ⟨Nat.le_refl _, Nat.le_refl _⟩ d_Cv_step_162 ?_
  intro ov ev10 H locs hp h
  rw [hp.1]
  refine W.eq (g2 := F0 m 165 ls []) rfl ?_
  have o10 : ev10 = (va_up ev9 24 (eJ G 10 (pl (stG Ra Rb Rc Rd) (stH Ra Rb Rc Rd)))) := hp.2
  have t10_24 : ev10 24 = eJ G 10 (pl (stG Ra Rb Rc Rd) (stH Ra Rb Rc Rd)) := by rw [o10, va_up_self]
  have t10_22 := (show ev10 22 = ev9 22 by rw [o10, va_up_ne _ _ (by decide)]).trans t9_22
  have t10_23 := (show ev10 23 = ev9 23 by rw [o10, va_up_ne _ _ (by decide)]).trans t9_23
  have t10_25 := (show ev10 25 = ev9 25 by rw [o10, va_up_ne _ _ (by decide)]).trans t9_25
  have t10_26 := (show ev10 26 = ev9 26 by rw [o10, va_up_ne _ _ (by decide)]).trans t9_26
  have t10_27 := (show ev10 27 = ev9 27 by rw [o10, va_up_ne _ _ (by decide)]).trans t9_27
  have t10_28 := (show ev10 28 = ev9 28 by rw [o10, va_up_ne _ _ (by decide)]).trans t9_28
  have t10_29 := (show ev10 29 = ev9 29 by rw [o10, va_up_ne _ _ (by decide)]).trans t9_29
  have t10_30 := (show ev10 30 = ev9 30 by rw [o10, va_up_ne _ _ (by decide)]).trans t9_30
  have t10_31 := (show ev10 31 = ev9 31 by rw [o10, va_up_ne _ _ (by decide)]).trans t9_31
  have t10_32 := (show ev10 32 = ev9 32 by rw [o10, va_up_ne _ _ (by decide)]).trans t9_32
  have t10_33 := (show ev10 33 = ev9 33 by rw [o10, va_up_ne _ _ (by decide)]).trans t9_33
  have t10_20 := (show ev10 20 = ev9 20 by rw [o10, va_up_ne _ _ (by decide)]).trans t9_20
  have t10_18 := (show ev10 18 = ev9 18 by rw [o10, va_up_ne _ _ (by decide)]).trans t9_18
  have t10_19 := (show ev10 19 = ev9 19 by rw [o10, va_up_ne _ _ (by decide)]).trans t9_19
  refine lv_aload_n hx hb d_Cv_step_165 rfl (lv_at hl 0 rfl) ?_
  refine wv_getf hx hb h 18 (by decide) (fs := [.ref (ad 19), .ref (ad 21), .ref (ad 22), .ref (ad 23), .ref (ad 24), .ref (ad 25), .ref (ad 26), .ref (ad 27), .ref (ad 28), .ref (ad 29), .ref (ad 30), .ref (ad 31), .ref (ad 32), .ref (ad 33)]) t10_18 hts (fun w hw => List.mem_cons_of_mem _ (fW_Cv w hw)) hown (ci := 0) (C := "NonceBox$Curve") (T := fT_Cv) (N := 14) rfl 0 (by decide) (hts _ (List.mem_cons_of_mem _ kf_Cv_16)) rfl (v := .ref (ad 19)) rfl d_Cv_step_166 ?_
  refine lv_aload_n hx hb d_Cv_step_169 rfl (lv_at hl 3 rfl) ?_
  refine lv_aload_n hx hb d_Cv_step_170 rfl (lv_at hl 3 rfl) ?_
  refine lv_aload_n hx hb d_Cv_step_171 rfl (lv_at hl 3 rfl) ?_
  refine wv_V (As := [.ref (ad 24), .ref (ad 24), .ref (ad 24)]) (rest := []) (k := 3) ⟨hx, hb, hml, hown, hts⟩ h 19 (by decide) (C := "NonceBox$Field") t10_19 rfl (m_Fd_times l G A ad ev10 19 20 10 21 19 608 (by decide) t10_19 (by decide) (by decide) 24 24 24 (pl (stG Ra Rb Rc Rd) (stH Ra Rb Rc Rd)) (pl (stG Ra Rb Rc Rd) (stH Ra Rb Rc Rd)) (pl (stG Ra Rb Rc Rd) (stH Ra Rb Rc Rd)) (wdC (mi Ra Rb) (mi Ra Rb) 10) (by decide) (by decide) (by decide) (by decide) t10_24 t10_24 t10_24 t10_20 (by decide) (by decide) (by decide) (by decide) (by decide)) kc_Fd_times kl_Cv_82 km_Fd_times kv_Fd_times ki_Fd (by decide +kernel) ⟨rfl, rfl, Nat.le_of_ble_eq_true rfl, Nat.le_of_ble_eq_true rfl⟩ hl.1 rfl rfl (Nat.le_of_ble_eq_true rfl) ⟨Nat.le_refl _, Nat.le_refl _⟩ d_Cv_step_172 ?_
  intro ov ev11 H locs hp h
  rw [hp.1]
  refine W.eq (g2 := F0 m 175 ls []) rfl ?_
  have o11 : ev11 = (va_up (va_up ev10 20 (eJ G 20 (wdC (pl (stG Ra Rb Rc Rd) (stH Ra Rb Rc Rd)) (pl (stG Ra Rb Rc Rd) (stH Ra Rb Rc Rd)) 10))) 24 (eJ G 10 (stC Ra Rb Rc Rd))) := hp.2
  have t11_20 : ev11 20 = eJ G 20 (wdC (pl (stG Ra Rb Rc Rd) (stH Ra Rb Rc Rd)) (pl (stG Ra Rb Rc Rd) (stH Ra Rb Rc Rd)) 10) := by rw [o11, va_up_ne _ _ (by decide), va_up_self]
  have t11_24 : ev11 24 = eJ G 10 (stC Ra Rb Rc Rd) := by rw [o11, va_up_self]
  have t11_22 := (show ev11 22 = ev10 22 by rw [o11, va_up_ne _ _ (by decide), va_up_ne _ _ (by decide)]).trans t10_22
  have t11_23 := (show ev11 23 = ev10 23 by rw [o11, va_up_ne _ _ (by decide), va_up_ne _ _ (by decide)]).trans t10_23
  have t11_25 := (show ev11 25 = ev10 25 by rw [o11, va_up_ne _ _ (by decide), va_up_ne _ _ (by decide)]).trans t10_25
  have t11_26 := (show ev11 26 = ev10 26 by rw [o11, va_up_ne _ _ (by decide), va_up_ne _ _ (by decide)]).trans t10_26
  have t11_27 := (show ev11 27 = ev10 27 by rw [o11, va_up_ne _ _ (by decide), va_up_ne _ _ (by decide)]).trans t10_27
  have t11_28 := (show ev11 28 = ev10 28 by rw [o11, va_up_ne _ _ (by decide), va_up_ne _ _ (by decide)]).trans t10_28
  have t11_29 := (show ev11 29 = ev10 29 by rw [o11, va_up_ne _ _ (by decide), va_up_ne _ _ (by decide)]).trans t10_29
  have t11_30 := (show ev11 30 = ev10 30 by rw [o11, va_up_ne _ _ (by decide), va_up_ne _ _ (by decide)]).trans t10_30
  have t11_31 := (show ev11 31 = ev10 31 by rw [o11, va_up_ne _ _ (by decide), va_up_ne _ _ (by decide)]).trans t10_31
  have t11_32 := (show ev11 32 = ev10 32 by rw [o11, va_up_ne _ _ (by decide), va_up_ne _ _ (by decide)]).trans t10_32
  have t11_33 := (show ev11 33 = ev10 33 by rw [o11, va_up_ne _ _ (by decide), va_up_ne _ _ (by decide)]).trans t10_33
  have t11_18 := (show ev11 18 = ev10 18 by rw [o11, va_up_ne _ _ (by decide), va_up_ne _ _ (by decide)]).trans t10_18
  have t11_19 := (show ev11 19 = ev10 19 by rw [o11, va_up_ne _ _ (by decide), va_up_ne _ _ (by decide)]).trans t10_19
  refine lv_aload_n hx hb d_Cv_step_175 rfl (lv_at hl 0 rfl) ?_
  refine wv_getf hx hb h 18 (by decide) (fs := [.ref (ad 19), .ref (ad 21), .ref (ad 22), .ref (ad 23), .ref (ad 24), .ref (ad 25), .ref (ad 26), .ref (ad 27), .ref (ad 28), .ref (ad 29), .ref (ad 30), .ref (ad 31), .ref (ad 32), .ref (ad 33)]) t11_18 hts (fun w hw => List.mem_cons_of_mem _ (fW_Cv w hw)) hown (ci := 0) (C := "NonceBox$Curve") (T := fT_Cv) (N := 14) rfl 0 (by decide) (hts _ (List.mem_cons_of_mem _ kf_Cv_16)) rfl (v := .ref (ad 19)) rfl d_Cv_step_176 ?_
  refine lv_aload_n hx hb d_Cv_step_179 rfl (lv_at hl 0 rfl) ?_
  refine wv_getf hx hb h 18 (by decide) (fs := [.ref (ad 19), .ref (ad 21), .ref (ad 22), .ref (ad 23), .ref (ad 24), .ref (ad 25), .ref (ad 26), .ref (ad 27), .ref (ad 28), .ref (ad 29), .ref (ad 30), .ref (ad 31), .ref (ad 32), .ref (ad 33)]) t11_18 hts (fun w hw => List.mem_cons_of_mem _ (fW_Cv w hw)) hown (ci := 0) (C := "NonceBox$Curve") (T := fT_Cv) (N := 14) rfl 9 (by decide) (hts _ (List.mem_cons_of_mem _ kf_Cv_52)) rfl (v := .ref (ad 29)) rfl d_Cv_step_180 ?_
  refine lv_aload_n hx hb d_Cv_step_183 rfl (lv_at hl 0 rfl) ?_
  refine wv_getf hx hb h 18 (by decide) (fs := [.ref (ad 19), .ref (ad 21), .ref (ad 22), .ref (ad 23), .ref (ad 24), .ref (ad 25), .ref (ad 26), .ref (ad 27), .ref (ad 28), .ref (ad 29), .ref (ad 30), .ref (ad 31), .ref (ad 32), .ref (ad 33)]) t11_18 hts (fun w hw => List.mem_cons_of_mem _ (fW_Cv w hw)) hown (ci := 0) (C := "NonceBox$Curve") (T := fT_Cv) (N := 14) rfl 10 (by decide) (hts _ (List.mem_cons_of_mem _ kf_Cv_55)) rfl (v := .ref (ad 30)) rfl d_Cv_step_184 ?_
  refine lv_aload hx hb d_Cv_step_187 (lv_at hl 4 rfl) ?_
  refine wv_V (As := [.ref (ad 29), .ref (ad 30), .ref (ad 25)]) (rest := []) (k := 3) ⟨hx, hb, hml, hown, hts⟩ h 19 (by decide) (C := "NonceBox$Field") t11_19 rfl (m_Fd_minus l G A ad ev11 19 20 10 21 19 608 (by decide) t11_19 (by decide) (by decide) 29 30 25 (stG Ra Rb Rc Rd) (stH Ra Rb Rc Rd) Rd (by decide) (by decide) (by decide) t11_29 t11_30 t11_25 (by decide)) kc_Fd_minus kl_Cv_114 km_Fd_minus kv_Fd_minus ki_Fd (by decide +kernel) ⟨rfl, rfl, Nat.le_of_ble_eq_true rfl, Nat.le_of_ble_eq_true rfl⟩ hl.1 rfl rfl (Nat.le_of_ble_eq_true rfl) ⟨Nat.le_refl _, Nat.le_refl _⟩ d_Cv_step_189 ?_
  intro ov ev12 H locs hp h
  rw [hp.1]
  refine W.eq (g2 := F0 m 192 ls []) rfl ?_
  have o12 : ev12 = (va_up ev11 25 (eJ G 10 (mi (stG Ra Rb Rc Rd) (stH Ra Rb Rc Rd)))) := hp.2
  have t12_25 : ev12 25 = eJ G 10 (mi (stG Ra Rb Rc Rd) (stH Ra Rb Rc Rd)) := by rw [o12, va_up_self]
  have t12_22 := (show ev12 22 = ev11 22 by rw [o12, va_up_ne _ _ (by decide)]).trans t11_22
  have t12_23 := (show ev12 23 = ev11 23 by rw [o12, va_up_ne _ _ (by decide)]).trans t11_23
  have t12_24 := (show ev12 24 = ev11 24 by rw [o12, va_up_ne _ _ (by decide)]).trans t11_24
  have t12_26 := (show ev12 26 = ev11 26 by rw [o12, va_up_ne _ _ (by decide)]).trans t11_26
  have t12_27 := (show ev12 27 = ev11 27 by rw [o12, va_up_ne _ _ (by decide)]).trans t11_27
  have t12_28 := (show ev12 28 = ev11 28 by rw [o12, va_up_ne _ _ (by decide)]).trans t11_28
  have t12_29 := (show ev12 29 = ev11 29 by rw [o12, va_up_ne _ _ (by decide)]).trans t11_29
  have t12_30 := (show ev12 30 = ev11 30 by rw [o12, va_up_ne _ _ (by decide)]).trans t11_30
  have t12_31 := (show ev12 31 = ev11 31 by rw [o12, va_up_ne _ _ (by decide)]).trans t11_31
  have t12_32 := (show ev12 32 = ev11 32 by rw [o12, va_up_ne _ _ (by decide)]).trans t11_32
  have t12_33 := (show ev12 33 = ev11 33 by rw [o12, va_up_ne _ _ (by decide)]).trans t11_33
  have t12_20 := (show ev12 20 = ev11 20 by rw [o12, va_up_ne _ _ (by decide)]).trans t11_20
  have t12_18 := (show ev12 18 = ev11 18 by rw [o12, va_up_ne _ _ (by decide)]).trans t11_18
  have t12_19 := (show ev12 19 = ev11 19 by rw [o12, va_up_ne _ _ (by decide)]).trans t11_19
  refine lv_aload_n hx hb d_Cv_step_192 rfl (lv_at hl 0 rfl) ?_
  refine wv_getf hx hb h 18 (by decide) (fs := [.ref (ad 19), .ref (ad 21), .ref (ad 22), .ref (ad 23), .ref (ad 24), .ref (ad 25), .ref (ad 26), .ref (ad 27), .ref (ad 28), .ref (ad 29), .ref (ad 30), .ref (ad 31), .ref (ad 32), .ref (ad 33)]) t12_18 hts (fun w hw => List.mem_cons_of_mem _ (fW_Cv w hw)) hown (ci := 0) (C := "NonceBox$Curve") (T := fT_Cv) (N := 14) rfl 0 (by decide) (hts _ (List.mem_cons_of_mem _ kf_Cv_16)) rfl (v := .ref (ad 19)) rfl d_Cv_step_193 ?_
  refine lv_aload hx hb d_Cv_step_196 (lv_at hl 4 rfl) ?_
  refine lv_aload hx hb d_Cv_step_198 (lv_at hl 4 rfl) ?_
  refine lv_aload hx hb d_Cv_step_200 (lv_at hl 4 rfl) ?_
  refine wv_V (As := [.ref (ad 25), .ref (ad 25), .ref (ad 25)]) (rest := []) (k := 3) ⟨hx, hb, hml, hown, hts⟩ h 19 (by decide) (C := "NonceBox$Field") t12_19 rfl (m_Fd_times l G A ad ev12 19 20 10 21 19 608 (by decide) t12_19 (by decide) (by decide) 25 25 25 (mi (stG Ra Rb Rc Rd) (stH Ra Rb Rc Rd)) (mi (stG Ra Rb Rc Rd) (stH Ra Rb Rc Rd)) (mi (stG Ra Rb Rc Rd) (stH Ra Rb Rc Rd)) (wdC (pl (stG Ra Rb Rc Rd) (stH Ra Rb Rc Rd)) (pl (stG Ra Rb Rc Rd) (stH Ra Rb Rc Rd)) 10) (by decide) (by decide) (by decide) (by decide) t12_25 t12_25 t12_25 t12_20 (by decide) (by decide) (by decide) (by decide) (by decide)) kc_Fd_times kl_Cv_82 km_Fd_times kv_Fd_times ki_Fd (by decide +kernel) ⟨rfl, rfl, Nat.le_of_ble_eq_true rfl, Nat.le_of_ble_eq_true rfl⟩ hl.1 rfl rfl (Nat.le_of_ble_eq_true rfl) ⟨Nat.le_refl _, Nat.le_refl _⟩ d_Cv_step_202 ?_
  intro ov ev13 H locs hp h
  rw [hp.1]
  refine W.eq (g2 := F0 m 205 ls []) rfl ?_
  have o13 : ev13 = (va_up (va_up ev12 20 (eJ G 20 (wdC (mi (stG Ra Rb Rc Rd) (stH Ra Rb Rc Rd)) (mi (stG Ra Rb Rc Rd) (stH Ra Rb Rc Rd)) 10))) 25 (eJ G 10 (tm (mi (stG Ra Rb Rc Rd) (stH Ra Rb Rc Rd)) (mi (stG Ra Rb Rc Rd) (stH Ra Rb Rc Rd))))) := hp.2
  have t13_20 : ev13 20 = eJ G 20 (wdC (mi (stG Ra Rb Rc Rd) (stH Ra Rb Rc Rd)) (mi (stG Ra Rb Rc Rd) (stH Ra Rb Rc Rd)) 10) := by rw [o13, va_up_ne _ _ (by decide), va_up_self]
  have t13_25 : ev13 25 = eJ G 10 (tm (mi (stG Ra Rb Rc Rd) (stH Ra Rb Rc Rd)) (mi (stG Ra Rb Rc Rd) (stH Ra Rb Rc Rd))) := by rw [o13, va_up_self]
  have t13_22 := (show ev13 22 = ev12 22 by rw [o13, va_up_ne _ _ (by decide), va_up_ne _ _ (by decide)]).trans t12_22
  have t13_23 := (show ev13 23 = ev12 23 by rw [o13, va_up_ne _ _ (by decide), va_up_ne _ _ (by decide)]).trans t12_23
  have t13_24 := (show ev13 24 = ev12 24 by rw [o13, va_up_ne _ _ (by decide), va_up_ne _ _ (by decide)]).trans t12_24
  have t13_26 := (show ev13 26 = ev12 26 by rw [o13, va_up_ne _ _ (by decide), va_up_ne _ _ (by decide)]).trans t12_26
  have t13_27 := (show ev13 27 = ev12 27 by rw [o13, va_up_ne _ _ (by decide), va_up_ne _ _ (by decide)]).trans t12_27
  have t13_28 := (show ev13 28 = ev12 28 by rw [o13, va_up_ne _ _ (by decide), va_up_ne _ _ (by decide)]).trans t12_28
  have t13_29 := (show ev13 29 = ev12 29 by rw [o13, va_up_ne _ _ (by decide), va_up_ne _ _ (by decide)]).trans t12_29
  have t13_30 := (show ev13 30 = ev12 30 by rw [o13, va_up_ne _ _ (by decide), va_up_ne _ _ (by decide)]).trans t12_30
  have t13_31 := (show ev13 31 = ev12 31 by rw [o13, va_up_ne _ _ (by decide), va_up_ne _ _ (by decide)]).trans t12_31
  have t13_32 := (show ev13 32 = ev12 32 by rw [o13, va_up_ne _ _ (by decide), va_up_ne _ _ (by decide)]).trans t12_32
  have t13_33 := (show ev13 33 = ev12 33 by rw [o13, va_up_ne _ _ (by decide), va_up_ne _ _ (by decide)]).trans t12_33
  have t13_18 := (show ev13 18 = ev12 18 by rw [o13, va_up_ne _ _ (by decide), va_up_ne _ _ (by decide)]).trans t12_18
  have t13_19 := (show ev13 19 = ev12 19 by rw [o13, va_up_ne _ _ (by decide), va_up_ne _ _ (by decide)]).trans t12_19
  refine lv_aload_n hx hb d_Cv_step_205 rfl (lv_at hl 0 rfl) ?_
  refine wv_getf hx hb h 18 (by decide) (fs := [.ref (ad 19), .ref (ad 21), .ref (ad 22), .ref (ad 23), .ref (ad 24), .ref (ad 25), .ref (ad 26), .ref (ad 27), .ref (ad 28), .ref (ad 29), .ref (ad 30), .ref (ad 31), .ref (ad 32), .ref (ad 33)]) t13_18 hts (fun w hw => List.mem_cons_of_mem _ (fW_Cv w hw)) hown (ci := 0) (C := "NonceBox$Curve") (T := fT_Cv) (N := 14) rfl 0 (by decide) (hts _ (List.mem_cons_of_mem _ kf_Cv_16)) rfl (v := .ref (ad 19)) rfl d_Cv_step_206 ?_
  refine lv_aload_n hx hb d_Cv_step_209 rfl (lv_at hl 0 rfl) ?_
  refine wv_getf hx hb h 18 (by decide) (fs := [.ref (ad 19), .ref (ad 21), .ref (ad 22), .ref (ad 23), .ref (ad 24), .ref (ad 25), .ref (ad 26), .ref (ad 27), .ref (ad 28), .ref (ad 29), .ref (ad 30), .ref (ad 31), .ref (ad 32), .ref (ad 33)]) t13_18 hts (fun w hw => List.mem_cons_of_mem _ (fW_Cv w hw)) hown (ci := 0) (C := "NonceBox$Curve") (T := fT_Cv) (N := 14) rfl 6 (by decide) (hts _ (List.mem_cons_of_mem _ kf_Cv_43)) rfl (v := .ref (ad 26)) rfl d_Cv_step_210 ?_
  refine lv_aload hx hb d_Cv_step_213 (lv_at hl 4 rfl) ?_
  refine lv_aload hx hb d_Cv_step_215 (lv_at hl 4 rfl) ?_
  refine wv_V (As := [.ref (ad 26), .ref (ad 25), .ref (ad 25)]) (rest := []) (k := 3) ⟨hx, hb, hml, hown, hts⟩ h 19 (by decide) (C := "NonceBox$Field") t13_19 rfl (m_Fd_times l G A ad ev13 19 20 10 21 19 608 (by decide) t13_19 (by decide) (by decide) 26 25 25 U (tm (mi (stG Ra Rb Rc Rd) (stH Ra Rb Rc Rd)) (mi (stG Ra Rb Rc Rd) (stH Ra Rb Rc Rd))) (tm (mi (stG Ra Rb Rc Rd) (stH Ra Rb Rc Rd)) (mi (stG Ra Rb Rc Rd) (stH Ra Rb Rc Rd))) (wdC (mi (stG Ra Rb Rc Rd) (stH Ra Rb Rc Rd)) (mi (stG Ra Rb Rc Rd) (stH Ra Rb Rc Rd)) 10) (by decide) (by decide) (by decide) (by decide) t13_26 t13_25 t13_25 t13_20 (by decide) (by decide) (by decide) (by decide) (by decide)) kc_Fd_times kl_Cv_82 km_Fd_times kv_Fd_times ki_Fd (by decide +kernel) ⟨rfl, rfl, Nat.le_of_ble_eq_true rfl, Nat.le_of_ble_eq_true rfl⟩ hl.1 rfl rfl (Nat.le_of_ble_eq_true rfl) ⟨Nat.le_refl _, Nat.le_refl _⟩ d_Cv_step_217 ?_
  intro ov ev14 H locs hp h
  rw [hp.1]
  refine W.eq (g2 := F0 m 220 ls []) rfl ?_
  have o14 : ev14 = (va_up (va_up ev13 20 (eJ G 20 (wdC U (tm (mi (stG Ra Rb Rc Rd) (stH Ra Rb Rc Rd)) (mi (stG Ra Rb Rc Rd) (stH Ra Rb Rc Rd))) 10))) 25 (eJ G 10 (stD U Ra Rb Rc Rd))) := hp.2
  have t14_20 : ev14 20 = eJ G 20 (wdC U (tm (mi (stG Ra Rb Rc Rd) (stH Ra Rb Rc Rd)) (mi (stG Ra Rb Rc Rd) (stH Ra Rb Rc Rd))) 10) := by rw [o14, va_up_ne _ _ (by decide), va_up_self]
  have t14_25 : ev14 25 = eJ G 10 (stD U Ra Rb Rc Rd) := by rw [o14, va_up_self]
  have t14_22 := (show ev14 22 = ev13 22 by rw [o14, va_up_ne _ _ (by decide), va_up_ne _ _ (by decide)]).trans t13_22
  have t14_23 := (show ev14 23 = ev13 23 by rw [o14, va_up_ne _ _ (by decide), va_up_ne _ _ (by decide)]).trans t13_23
  have t14_24 := (show ev14 24 = ev13 24 by rw [o14, va_up_ne _ _ (by decide), va_up_ne _ _ (by decide)]).trans t13_24
  have t14_26 := (show ev14 26 = ev13 26 by rw [o14, va_up_ne _ _ (by decide), va_up_ne _ _ (by decide)]).trans t13_26
  have t14_27 := (show ev14 27 = ev13 27 by rw [o14, va_up_ne _ _ (by decide), va_up_ne _ _ (by decide)]).trans t13_27
  have t14_28 := (show ev14 28 = ev13 28 by rw [o14, va_up_ne _ _ (by decide), va_up_ne _ _ (by decide)]).trans t13_28
  have t14_29 := (show ev14 29 = ev13 29 by rw [o14, va_up_ne _ _ (by decide), va_up_ne _ _ (by decide)]).trans t13_29
  have t14_30 := (show ev14 30 = ev13 30 by rw [o14, va_up_ne _ _ (by decide), va_up_ne _ _ (by decide)]).trans t13_30
  have t14_31 := (show ev14 31 = ev13 31 by rw [o14, va_up_ne _ _ (by decide), va_up_ne _ _ (by decide)]).trans t13_31
  have t14_32 := (show ev14 32 = ev13 32 by rw [o14, va_up_ne _ _ (by decide), va_up_ne _ _ (by decide)]).trans t13_32
  have t14_33 := (show ev14 33 = ev13 33 by rw [o14, va_up_ne _ _ (by decide), va_up_ne _ _ (by decide)]).trans t13_33
  have t14_18 := (show ev14 18 = ev13 18 by rw [o14, va_up_ne _ _ (by decide), va_up_ne _ _ (by decide)]).trans t13_18
  have t14_19 := (show ev14 19 = ev13 19 by rw [o14, va_up_ne _ _ (by decide), va_up_ne _ _ (by decide)]).trans t13_19
  refine lv_aload_n hx hb d_Cv_step_220 rfl (lv_at hl 0 rfl) ?_
  refine wv_getf hx hb h 18 (by decide) (fs := [.ref (ad 19), .ref (ad 21), .ref (ad 22), .ref (ad 23), .ref (ad 24), .ref (ad 25), .ref (ad 26), .ref (ad 27), .ref (ad 28), .ref (ad 29), .ref (ad 30), .ref (ad 31), .ref (ad 32), .ref (ad 33)]) t14_18 hts (fun w hw => List.mem_cons_of_mem _ (fW_Cv w hw)) hown (ci := 0) (C := "NonceBox$Curve") (T := fT_Cv) (N := 14) rfl 0 (by decide) (hts _ (List.mem_cons_of_mem _ kf_Cv_16)) rfl (v := .ref (ad 19)) rfl d_Cv_step_221 ?_
  refine lv_aload_n hx hb d_Cv_step_224 rfl (lv_at hl 0 rfl) ?_
  refine wv_getf hx hb h 18 (by decide) (fs := [.ref (ad 19), .ref (ad 21), .ref (ad 22), .ref (ad 23), .ref (ad 24), .ref (ad 25), .ref (ad 26), .ref (ad 27), .ref (ad 28), .ref (ad 29), .ref (ad 30), .ref (ad 31), .ref (ad 32), .ref (ad 33)]) t14_18 hts (fun w hw => List.mem_cons_of_mem _ (fW_Cv w hw)) hown (ci := 0) (C := "NonceBox$Curve") (T := fT_Cv) (N := 14) rfl 11 (by decide) (hts _ (List.mem_cons_of_mem _ kf_Cv_58)) rfl (v := .ref (ad 31)) rfl d_Cv_step_225 ?_
  refine lv_aload_n hx hb d_Cv_step_228 rfl (lv_at hl 0 rfl) ?_
  refine wv_getf hx hb h 18 (by decide) (fs := [.ref (ad 19), .ref (ad 21), .ref (ad 22), .ref (ad 23), .ref (ad 24), .ref (ad 25), .ref (ad 26), .ref (ad 27), .ref (ad 28), .ref (ad 29), .ref (ad 30), .ref (ad 31), .ref (ad 32), .ref (ad 33)]) t14_18 hts (fun w hw => List.mem_cons_of_mem _ (fW_Cv w hw)) hown (ci := 0) (C := "NonceBox$Curve") (T := fT_Cv) (N := 14) rfl 12 (by decide) (hts _ (List.mem_cons_of_mem _ kf_Cv_61)) rfl (v := .ref (ad 32)) rfl d_Cv_step_229 ?_
  refine lv_aload_n hx hb d_Cv_step_232 rfl (lv_at hl 1 rfl) ?_
  refine wv_V (As := [.ref (ad 31), .ref (ad 32), .ref (ad 22)]) (rest := []) (k := 3) ⟨hx, hb, hml, hown, hts⟩ h 19 (by decide) (C := "NonceBox$Field") t14_19 rfl (m_Fd_times l G A ad ev14 19 20 10 21 19 608 (by decide) t14_19 (by decide) (by decide) 31 32 22 (stQ Ra Rb) (stR Ra Rb) Ra (wdC U (tm (mi (stG Ra Rb Rc Rd) (stH Ra Rb Rc Rd)) (mi (stG Ra Rb Rc Rd) (stH Ra Rb Rc Rd))) 10) (by decide) (by decide) (by decide) (by decide) t14_31 t14_32 t14_22 t14_20 (by decide) (by decide) (by decide) (by decide) (by decide)) kc_Fd_times kl_Cv_82 km_Fd_times kv_Fd_times ki_Fd (by decide +kernel) ⟨rfl, rfl, Nat.le_of_ble_eq_true rfl, Nat.le_of_ble_eq_true rfl⟩ hl.1 rfl rfl (Nat.le_of_ble_eq_true rfl) ⟨Nat.le_refl _, Nat.le_refl _⟩ d_Cv_step_233 ?_
  intro ov ev15 H locs hp h
  rw [hp.1]
  refine W.eq (g2 := F0 m 236 ls []) rfl ?_
  have o15 : ev15 = (va_up (va_up ev14 20 (eJ G 20 (wdC (stQ Ra Rb) (stR Ra Rb) 10))) 22 (eJ G 10 (stA Ra Rb))) := hp.2
  have t15_20 : ev15 20 = eJ G 20 (wdC (stQ Ra Rb) (stR Ra Rb) 10) := by rw [o15, va_up_ne _ _ (by decide), va_up_self]
  have t15_22 : ev15 22 = eJ G 10 (stA Ra Rb) := by rw [o15, va_up_self]
  have t15_23 := (show ev15 23 = ev14 23 by rw [o15, va_up_ne _ _ (by decide), va_up_ne _ _ (by decide)]).trans t14_23
  have t15_24 := (show ev15 24 = ev14 24 by rw [o15, va_up_ne _ _ (by decide), va_up_ne _ _ (by decide)]).trans t14_24
  have t15_25 := (show ev15 25 = ev14 25 by rw [o15, va_up_ne _ _ (by decide), va_up_ne _ _ (by decide)]).trans t14_25
  have t15_26 := (show ev15 26 = ev14 26 by rw [o15, va_up_ne _ _ (by decide), va_up_ne _ _ (by decide)]).trans t14_26
  have t15_27 := (show ev15 27 = ev14 27 by rw [o15, va_up_ne _ _ (by decide), va_up_ne _ _ (by decide)]).trans t14_27
  have t15_28 := (show ev15 28 = ev14 28 by rw [o15, va_up_ne _ _ (by decide), va_up_ne _ _ (by decide)]).trans t14_28
  have t15_29 := (show ev15 29 = ev14 29 by rw [o15, va_up_ne _ _ (by decide), va_up_ne _ _ (by decide)]).trans t14_29
  have t15_30 := (show ev15 30 = ev14 30 by rw [o15, va_up_ne _ _ (by decide), va_up_ne _ _ (by decide)]).trans t14_30
  have t15_31 := (show ev15 31 = ev14 31 by rw [o15, va_up_ne _ _ (by decide), va_up_ne _ _ (by decide)]).trans t14_31
  have t15_32 := (show ev15 32 = ev14 32 by rw [o15, va_up_ne _ _ (by decide), va_up_ne _ _ (by decide)]).trans t14_32
  have t15_33 := (show ev15 33 = ev14 33 by rw [o15, va_up_ne _ _ (by decide), va_up_ne _ _ (by decide)]).trans t14_33
  have t15_18 := (show ev15 18 = ev14 18 by rw [o15, va_up_ne _ _ (by decide), va_up_ne _ _ (by decide)]).trans t14_18
  have t15_19 := (show ev15 19 = ev14 19 by rw [o15, va_up_ne _ _ (by decide), va_up_ne _ _ (by decide)]).trans t14_19
  refine lv_aload_n hx hb d_Cv_step_236 rfl (lv_at hl 0 rfl) ?_
  refine wv_getf hx hb h 18 (by decide) (fs := [.ref (ad 19), .ref (ad 21), .ref (ad 22), .ref (ad 23), .ref (ad 24), .ref (ad 25), .ref (ad 26), .ref (ad 27), .ref (ad 28), .ref (ad 29), .ref (ad 30), .ref (ad 31), .ref (ad 32), .ref (ad 33)]) t15_18 hts (fun w hw => List.mem_cons_of_mem _ (fW_Cv w hw)) hown (ci := 0) (C := "NonceBox$Curve") (T := fT_Cv) (N := 14) rfl 0 (by decide) (hts _ (List.mem_cons_of_mem _ kf_Cv_16)) rfl (v := .ref (ad 19)) rfl d_Cv_step_237 ?_
  refine lv_aload_n hx hb d_Cv_step_240 rfl (lv_at hl 0 rfl) ?_
  refine wv_getf hx hb h 18 (by decide) (fs := [.ref (ad 19), .ref (ad 21), .ref (ad 22), .ref (ad 23), .ref (ad 24), .ref (ad 25), .ref (ad 26), .ref (ad 27), .ref (ad 28), .ref (ad 29), .ref (ad 30), .ref (ad 31), .ref (ad 32), .ref (ad 33)]) t15_18 hts (fun w hw => List.mem_cons_of_mem _ (fW_Cv w hw)) hown (ci := 0) (C := "NonceBox$Curve") (T := fT_Cv) (N := 14) rfl 13 (by decide) (hts _ (List.mem_cons_of_mem _ kf_Cv_64)) rfl (v := .ref (ad 33)) rfl d_Cv_step_241 ?_
  refine lv_ldc (v := 121665) hx hb hown (hts _ (List.mem_cons_of_mem _ ko_Cv_117)) d_Cv_step_244 ?_
  refine lv_aload_n hx hb d_Cv_step_246 rfl (lv_at hl 2 rfl) ?_
  refine wv_V (As := [.ref (ad 33), .int (121665), .ref (ad 23)]) (rest := []) (k := 3) ⟨hx, hb, hml, hown, hts⟩ h 19 (by decide) (C := "NonceBox$Field") t15_19 rfl (m_Fd_scale l G A ad ev15 19 20 10 21 19 608 (by decide) t15_19 (by decide) (by decide) 33 23 121665 (stT Ra Rb) Rb (by decide) (by decide) t15_33 t15_23 (by decide)) kc_Fd_scale kl_Cv_118 km_Fd_scale kv_Fd_scale ki_Fd (by decide +kernel) ⟨rfl, rfl, Nat.le_of_ble_eq_true rfl, Nat.le_of_ble_eq_true rfl⟩ hl.1 rfl rfl (Nat.le_of_ble_eq_true rfl) ⟨Nat.le_refl _, Nat.le_refl _⟩ d_Cv_step_247 ?_
  intro ov ev16 H locs hp h
  rw [hp.1]
  refine W.eq (g2 := F0 m 250 ls []) rfl ?_
  have o16 : ev16 = (va_up ev15 23 (eJ G 10 (sc (stT Ra Rb)))) := hp.2
  have t16_23 : ev16 23 = eJ G 10 (sc (stT Ra Rb)) := by rw [o16, va_up_self]
  have t16_22 := (show ev16 22 = ev15 22 by rw [o16, va_up_ne _ _ (by decide)]).trans t15_22
  have t16_24 := (show ev16 24 = ev15 24 by rw [o16, va_up_ne _ _ (by decide)]).trans t15_24
  have t16_25 := (show ev16 25 = ev15 25 by rw [o16, va_up_ne _ _ (by decide)]).trans t15_25
  have t16_26 := (show ev16 26 = ev15 26 by rw [o16, va_up_ne _ _ (by decide)]).trans t15_26
  have t16_27 := (show ev16 27 = ev15 27 by rw [o16, va_up_ne _ _ (by decide)]).trans t15_27
  have t16_28 := (show ev16 28 = ev15 28 by rw [o16, va_up_ne _ _ (by decide)]).trans t15_28
  have t16_29 := (show ev16 29 = ev15 29 by rw [o16, va_up_ne _ _ (by decide)]).trans t15_29
  have t16_30 := (show ev16 30 = ev15 30 by rw [o16, va_up_ne _ _ (by decide)]).trans t15_30
  have t16_31 := (show ev16 31 = ev15 31 by rw [o16, va_up_ne _ _ (by decide)]).trans t15_31
  have t16_32 := (show ev16 32 = ev15 32 by rw [o16, va_up_ne _ _ (by decide)]).trans t15_32
  have t16_33 := (show ev16 33 = ev15 33 by rw [o16, va_up_ne _ _ (by decide)]).trans t15_33
  have t16_20 := (show ev16 20 = ev15 20 by rw [o16, va_up_ne _ _ (by decide)]).trans t15_20
  have t16_18 := (show ev16 18 = ev15 18 by rw [o16, va_up_ne _ _ (by decide)]).trans t15_18
  have t16_19 := (show ev16 19 = ev15 19 by rw [o16, va_up_ne _ _ (by decide)]).trans t15_19
  refine lv_aload_n hx hb d_Cv_step_250 rfl (lv_at hl 0 rfl) ?_
  refine wv_getf hx hb h 18 (by decide) (fs := [.ref (ad 19), .ref (ad 21), .ref (ad 22), .ref (ad 23), .ref (ad 24), .ref (ad 25), .ref (ad 26), .ref (ad 27), .ref (ad 28), .ref (ad 29), .ref (ad 30), .ref (ad 31), .ref (ad 32), .ref (ad 33)]) t16_18 hts (fun w hw => List.mem_cons_of_mem _ (fW_Cv w hw)) hown (ci := 0) (C := "NonceBox$Curve") (T := fT_Cv) (N := 14) rfl 0 (by decide) (hts _ (List.mem_cons_of_mem _ kf_Cv_16)) rfl (v := .ref (ad 19)) rfl d_Cv_step_251 ?_
  refine lv_aload_n hx hb d_Cv_step_254 rfl (lv_at hl 0 rfl) ?_
  refine wv_getf hx hb h 18 (by decide) (fs := [.ref (ad 19), .ref (ad 21), .ref (ad 22), .ref (ad 23), .ref (ad 24), .ref (ad 25), .ref (ad 26), .ref (ad 27), .ref (ad 28), .ref (ad 29), .ref (ad 30), .ref (ad 31), .ref (ad 32), .ref (ad 33)]) t16_18 hts (fun w hw => List.mem_cons_of_mem _ (fW_Cv w hw)) hown (ci := 0) (C := "NonceBox$Curve") (T := fT_Cv) (N := 14) rfl 11 (by decide) (hts _ (List.mem_cons_of_mem _ kf_Cv_58)) rfl (v := .ref (ad 31)) rfl d_Cv_step_255 ?_
  refine lv_aload_n hx hb d_Cv_step_258 rfl (lv_at hl 2 rfl) ?_
  refine lv_aload_n hx hb d_Cv_step_259 rfl (lv_at hl 2 rfl) ?_
  refine wv_V (As := [.ref (ad 31), .ref (ad 23), .ref (ad 23)]) (rest := []) (k := 3) ⟨hx, hb, hml, hown, hts⟩ h 19 (by decide) (C := "NonceBox$Field") t16_19 rfl (m_Fd_plus l G A ad ev16 19 20 10 21 19 608 (by decide) t16_19 (by decide) (by decide) 31 23 23 (stQ Ra Rb) (sc (stT Ra Rb)) (sc (stT Ra Rb)) (by decide) (by decide) (by decide) t16_31 t16_23 t16_23 (by decide)) kc_Fd_plus kl_Cv_111 km_Fd_plus kv_Fd_plus ki_Fd (by decide +kernel) ⟨rfl, rfl, Nat.le_of_ble_eq_true rfl, Nat.le_of_ble_eq_true rfl⟩ hl.1 rfl rfl (Nat.le_of_ble_eq_true rfl) ⟨Nat.le_refl _, Nat.le_refl _⟩ d_Cv_step_260 ?_
  intro ov ev17 H locs hp h
  rw [hp.1]
  refine W.eq (g2 := F0 m 263 ls []) rfl ?_
  have o17 : ev17 = (va_up ev16 23 (eJ G 10 (pl (stQ Ra Rb) (sc (stT Ra Rb))))) := hp.2
  have t17_23 : ev17 23 = eJ G 10 (pl (stQ Ra Rb) (sc (stT Ra Rb))) := by rw [o17, va_up_self]
  have t17_22 := (show ev17 22 = ev16 22 by rw [o17, va_up_ne _ _ (by decide)]).trans t16_22
  have t17_24 := (show ev17 24 = ev16 24 by rw [o17, va_up_ne _ _ (by decide)]).trans t16_24
  have t17_25 := (show ev17 25 = ev16 25 by rw [o17, va_up_ne _ _ (by decide)]).trans t16_25
  have t17_26 := (show ev17 26 = ev16 26 by rw [o17, va_up_ne _ _ (by decide)]).trans t16_26
  have t17_27 := (show ev17 27 = ev16 27 by rw [o17, va_up_ne _ _ (by decide)]).trans t16_27
  have t17_28 := (show ev17 28 = ev16 28 by rw [o17, va_up_ne _ _ (by decide)]).trans t16_28
  have t17_29 := (show ev17 29 = ev16 29 by rw [o17, va_up_ne _ _ (by decide)]).trans t16_29
  have t17_30 := (show ev17 30 = ev16 30 by rw [o17, va_up_ne _ _ (by decide)]).trans t16_30
  have t17_31 := (show ev17 31 = ev16 31 by rw [o17, va_up_ne _ _ (by decide)]).trans t16_31
  have t17_32 := (show ev17 32 = ev16 32 by rw [o17, va_up_ne _ _ (by decide)]).trans t16_32
  have t17_33 := (show ev17 33 = ev16 33 by rw [o17, va_up_ne _ _ (by decide)]).trans t16_33
  have t17_20 := (show ev17 20 = ev16 20 by rw [o17, va_up_ne _ _ (by decide)]).trans t16_20
  have t17_18 := (show ev17 18 = ev16 18 by rw [o17, va_up_ne _ _ (by decide)]).trans t16_18
  have t17_19 := (show ev17 19 = ev16 19 by rw [o17, va_up_ne _ _ (by decide)]).trans t16_19
  refine lv_aload_n hx hb d_Cv_step_263 rfl (lv_at hl 0 rfl) ?_
  refine wv_getf hx hb h 18 (by decide) (fs := [.ref (ad 19), .ref (ad 21), .ref (ad 22), .ref (ad 23), .ref (ad 24), .ref (ad 25), .ref (ad 26), .ref (ad 27), .ref (ad 28), .ref (ad 29), .ref (ad 30), .ref (ad 31), .ref (ad 32), .ref (ad 33)]) t17_18 hts (fun w hw => List.mem_cons_of_mem _ (fW_Cv w hw)) hown (ci := 0) (C := "NonceBox$Curve") (T := fT_Cv) (N := 14) rfl 0 (by decide) (hts _ (List.mem_cons_of_mem _ kf_Cv_16)) rfl (v := .ref (ad 19)) rfl d_Cv_step_264 ?_
  refine lv_aload_n hx hb d_Cv_step_267 rfl (lv_at hl 0 rfl) ?_
  refine wv_getf hx hb h 18 (by decide) (fs := [.ref (ad 19), .ref (ad 21), .ref (ad 22), .ref (ad 23), .ref (ad 24), .ref (ad 25), .ref (ad 26), .ref (ad 27), .ref (ad 28), .ref (ad 29), .ref (ad 30), .ref (ad 31), .ref (ad 32), .ref (ad 33)]) t17_18 hts (fun w hw => List.mem_cons_of_mem _ (fW_Cv w hw)) hown (ci := 0) (C := "NonceBox$Curve") (T := fT_Cv) (N := 14) rfl 13 (by decide) (hts _ (List.mem_cons_of_mem _ kf_Cv_64)) rfl (v := .ref (ad 33)) rfl d_Cv_step_268 ?_
  refine lv_aload_n hx hb d_Cv_step_271 rfl (lv_at hl 2 rfl) ?_
  refine lv_aload_n hx hb d_Cv_step_272 rfl (lv_at hl 2 rfl) ?_
  refine wv_V (As := [.ref (ad 33), .ref (ad 23), .ref (ad 23)]) (rest := []) (k := 3) ⟨hx, hb, hml, hown, hts⟩ h 19 (by decide) (C := "NonceBox$Field") t17_19 rfl (m_Fd_times l G A ad ev17 19 20 10 21 19 608 (by decide) t17_19 (by decide) (by decide) 33 23 23 (stT Ra Rb) (pl (stQ Ra Rb) (sc (stT Ra Rb))) (pl (stQ Ra Rb) (sc (stT Ra Rb))) (wdC (stQ Ra Rb) (stR Ra Rb) 10) (by decide) (by decide) (by decide) (by decide) t17_33 t17_23 t17_23 t17_20 (by decide) (by decide) (by decide) (by decide) (by decide)) kc_Fd_times kl_Cv_82 km_Fd_times kv_Fd_times ki_Fd (by decide +kernel) ⟨rfl, rfl, Nat.le_of_ble_eq_true rfl, Nat.le_of_ble_eq_true rfl⟩ hl.1 rfl rfl (Nat.le_of_ble_eq_true rfl) ⟨Nat.le_refl _, Nat.le_refl _⟩ d_Cv_step_273 ?_
  intro ov ev18 H locs hp h
  rw [hp.1]
  refine W.eq (g2 := F0 m 276 ls []) rfl ?_
  have o18 : ev18 = (va_up (va_up ev17 20 (eJ G 20 (wdC (stT Ra Rb) (pl (stQ Ra Rb) (sc (stT Ra Rb))) 10))) 23 (eJ G 10 (stB Ra Rb))) := hp.2
  have t18_20 : ev18 20 = eJ G 20 (wdC (stT Ra Rb) (pl (stQ Ra Rb) (sc (stT Ra Rb))) 10) := by rw [o18, va_up_ne _ _ (by decide), va_up_self]
  have t18_23 : ev18 23 = eJ G 10 (stB Ra Rb) := by rw [o18, va_up_self]
  have t18_22 := (show ev18 22 = ev17 22 by rw [o18, va_up_ne _ _ (by decide), va_up_ne _ _ (by decide)]).trans t17_22
  have t18_24 := (show ev18 24 = ev17 24 by rw [o18, va_up_ne _ _ (by decide), va_up_ne _ _ (by decide)]).trans t17_24
  have t18_25 := (show ev18 25 = ev17 25 by rw [o18, va_up_ne _ _ (by decide), va_up_ne _ _ (by decide)]).trans t17_25
  have t18_26 := (show ev18 26 = ev17 26 by rw [o18, va_up_ne _ _ (by decide), va_up_ne _ _ (by decide)]).trans t17_26
  have t18_27 := (show ev18 27 = ev17 27 by rw [o18, va_up_ne _ _ (by decide), va_up_ne _ _ (by decide)]).trans t17_27
  have t18_28 := (show ev18 28 = ev17 28 by rw [o18, va_up_ne _ _ (by decide), va_up_ne _ _ (by decide)]).trans t17_28
  have t18_29 := (show ev18 29 = ev17 29 by rw [o18, va_up_ne _ _ (by decide), va_up_ne _ _ (by decide)]).trans t17_29
  have t18_30 := (show ev18 30 = ev17 30 by rw [o18, va_up_ne _ _ (by decide), va_up_ne _ _ (by decide)]).trans t17_30
  have t18_31 := (show ev18 31 = ev17 31 by rw [o18, va_up_ne _ _ (by decide), va_up_ne _ _ (by decide)]).trans t17_31
  have t18_32 := (show ev18 32 = ev17 32 by rw [o18, va_up_ne _ _ (by decide), va_up_ne _ _ (by decide)]).trans t17_32
  have t18_33 := (show ev18 33 = ev17 33 by rw [o18, va_up_ne _ _ (by decide), va_up_ne _ _ (by decide)]).trans t17_33
  have t18_18 := (show ev18 18 = ev17 18 by rw [o18, va_up_ne _ _ (by decide), va_up_ne _ _ (by decide)]).trans t17_18
  have t18_19 := (show ev18 19 = ev17 19 by rw [o18, va_up_ne _ _ (by decide), va_up_ne _ _ (by decide)]).trans t17_19
  refine wv_vret hx hb hr hlocks h d_Cv_step_276 ⟨(wdC (stT Ra Rb) (pl (stQ Ra Rb) (sc (stT Ra Rb))) 10), (pl Ra Rb), (mi Ra Rb), (stG Ra Rb Rc Rd), (stH Ra Rb Rc Rd), (stQ Ra Rb), (stR Ra Rb), (stT Ra Rb), rfl, ?_⟩
  funext j
  by_cases c0 : j = 20
  · rw [c0, t18_20, va_up_ne _ _ (by decide), va_up_ne _ _ (by decide), va_up_ne _ _ (by decide), va_up_ne _ _ (by decide), va_up_ne _ _ (by decide), va_up_ne _ _ (by decide), va_up_ne _ _ (by decide), va_up_ne _ _ (by decide), va_up_ne _ _ (by decide), va_up_ne _ _ (by decide), va_up_ne _ _ (by decide), va_up_self]
  by_cases c1 : j = 27
  · rw [c1, t18_27, va_up_ne _ _ (by decide), va_up_ne _ _ (by decide), va_up_ne _ _ (by decide), va_up_ne _ _ (by decide), va_up_ne _ _ (by decide), va_up_ne _ _ (by decide), va_up_ne _ _ (by decide), va_up_ne _ _ (by decide), va_up_ne _ _ (by decide), va_up_ne _ _ (by decide), va_up_self]
  by_cases c2 : j = 28
  · rw [c2, t18_28, va_up_ne _ _ (by decide), va_up_ne _ _ (by decide), va_up_ne _ _ (by decide), va_up_ne _ _ (by decide), va_up_ne _ _ (by decide), va_up_ne _ _ (by decide), va_up_ne _ _ (by decide), va_up_ne _ _ (by decide), va_up_ne _ _ (by decide), va_up_self]
  by_cases c3 : j = 29
  · rw [c3, t18_29, va_up_ne _ _ (by decide), va_up_ne _ _ (by decide), va_up_ne _ _ (by decide), va_up_ne _ _ (by decide), va_up_ne _ _ (by decide), va_up_ne _ _ (by decide), va_up_ne _ _ (by decide), va_up_ne _ _ (by decide), va_up_self]
  by_cases c4 : j = 30
  · rw [c4, t18_30, va_up_ne _ _ (by decide), va_up_ne _ _ (by decide), va_up_ne _ _ (by decide), va_up_ne _ _ (by decide), va_up_ne _ _ (by decide), va_up_ne _ _ (by decide), va_up_ne _ _ (by decide), va_up_self]
  by_cases c5 : j = 31
  · rw [c5, t18_31, va_up_ne _ _ (by decide), va_up_ne _ _ (by decide), va_up_ne _ _ (by decide), va_up_ne _ _ (by decide), va_up_ne _ _ (by decide), va_up_ne _ _ (by decide), va_up_self]
  by_cases c6 : j = 32
  · rw [c6, t18_32, va_up_ne _ _ (by decide), va_up_ne _ _ (by decide), va_up_ne _ _ (by decide), va_up_ne _ _ (by decide), va_up_ne _ _ (by decide), va_up_self]
  by_cases c7 : j = 33
  · rw [c7, t18_33, va_up_ne _ _ (by decide), va_up_ne _ _ (by decide), va_up_ne _ _ (by decide), va_up_ne _ _ (by decide), va_up_self]
  by_cases c8 : j = 22
  · rw [c8, t18_22, va_up_ne _ _ (by decide), va_up_ne _ _ (by decide), va_up_ne _ _ (by decide), va_up_self]
  by_cases c9 : j = 23
  · rw [c9, t18_23, va_up_ne _ _ (by decide), va_up_ne _ _ (by decide), va_up_self]
  by_cases c10 : j = 24
  · rw [c10, t18_24, va_up_ne _ _ (by decide), va_up_self]
  by_cases c11 : j = 25
  · rw [c11, t18_25, va_up_self]
  rw [va_up_ne _ _ c11, va_up_ne _ _ c10, va_up_ne _ _ c9, va_up_ne _ _ c8, va_up_ne _ _ c7, va_up_ne _ _ c6, va_up_ne _ _ c5, va_up_ne _ _ c4, va_up_ne _ _ c3, va_up_ne _ _ c2, va_up_ne _ _ c1, va_up_ne _ _ c0]
  rw [o18, va_up_ne _ _ c9, va_up_ne _ _ c0, o17, va_up_ne _ _ c9, o16, va_up_ne _ _ c9, o15, va_up_ne _ _ c8, va_up_ne _ _ c0, o14, va_up_ne _ _ c11, va_up_ne _ _ c0, o13, va_up_ne _ _ c11, va_up_ne _ _ c0, o12, va_up_ne _ _ c11, o11, va_up_ne _ _ c10, va_up_ne _ _ c0, o10, va_up_ne _ _ c10, o9, va_up_ne _ _ c7, o8, va_up_ne _ _ c6, va_up_ne _ _ c0, o7, va_up_ne _ _ c5, va_up_ne _ _ c0, o6, va_up_ne _ _ c4, va_up_ne _ _ c0, o5, va_up_ne _ _ c4, o4, va_up_ne _ _ c3, va_up_ne _ _ c0, o3, va_up_ne _ _ c3, o2, va_up_ne _ _ c2, o1, va_up_ne _ _ c1]
set_option maxRecDepth 100000 in
set_option maxHeartbeats 4000000 in
/-- STEP, the rows 24 25 22 23 -/
theorem m_Cv_step2 (l : Launch) (G : wG) (A : Nat → Prop) (ad : Nat → Nat) (ev : Nat → va_E) (Ra Rb Rc Rd U zW zE zF zG zH zQ zR zT : Nat → Int64) (h18 : ev 18 = eO 0 [.ref (ad 19), .ref (ad 21), .ref (ad 22), .ref (ad 23), .ref (ad 24), .ref (ad 25), .ref (ad 26), .ref (ad 27), .ref (ad 28), .ref (ad 29), .ref (ad 30), .ref (ad 31), .ref (ad 32), .ref (ad 33)]) (h19 : ev 19 = eO 1 [.int (nI 10), .int (nI 21), .long 19, .long 608, .ref (ad 20)]) (ha : ev 24 = eJ G 10 Ra) (hb' : ev 25 = eJ G 10 Rb) (hc : ev 22 = eJ G 10 Rc) (hd : ev 23 = eJ G 10 Rd) (hu : ev 26 = eJ G 10 U) (h20 : ev 20 = eJ G 20 zW) (h27 : ev 27 = eJ G 10 zE) (h28 : ev 28 = eJ G 10 zF) (h29 : ev 29 = eJ G 10 zG) (h30 : ev 30 = eJ G 10 zH) (h31 : ev 31 = eJ G 10 zQ) (h32 : ev 32 = eJ G 10 zR) (h33 : ev 33 = eJ G 10 zT) : wM l y_Cv_step w_Cv_step ({ frames := 12, cells := 0, slots := 0, locals := 400 }) G A 52 ad ev [.ref (ad 18), .ref (ad 24), .ref (ad 25), .ref (ad 22), .ref (ad 23)] (fun ov ev' => ∃ (W E1 F1 G1 H1 Q1 R1 T1 : Nat → Int64), ov = none ∧ ev' = (va_up (va_up (va_up (va_up (va_up (va_up (va_up (va_up (va_up (va_up (va_up (va_up ev 20 (eJ G 20 W)) 27 (eJ G 10 E1)) 28 (eJ G 10 F1)) 29 (eJ G 10 G1)) 30 (eJ G 10 H1)) 31 (eJ G 10 Q1)) 32 (eJ G 10 R1)) 33 (eJ G 10 T1)) 24 (eJ G 10 (stA Ra Rb))) 25 (eJ G 10 (stB Ra Rb))) 22 (eJ G 10 (stC Ra Rb Rc Rd))) 23 (eJ G 10 (stD U Ra Rb Rc Rd)))) := by
  refine wv_ofW (cc := c_Cv_step) (maxL := 5) (ret := none) (by decide) rfl (Nat.le_of_ble_eq_true rfl) ?_
  intro p e s m below meth c ls hx hb hr hml hts hown hlocks hini h hl
  have hl : lv_has ls 5 [(0, .ref (ad 18)), (1, .ref (ad 24)), (2, .ref (ad 25)), (3, .ref (ad 22)), (4, .ref (ad 23))] := hl
  refine lv_aload_n hx hb d_Cv_step_0 rfl (lv_at hl 0 rfl) ?_
  refine wv_getf hx hb h 18 (by decide) (fs := [.ref (ad 19), .ref (ad 21), .ref (ad 22), .ref (ad 23), .ref (ad 24), .ref (ad 25), .ref (ad 26), .ref (ad 27), .ref (ad 28), .ref (ad 29), .ref (ad 30), .ref (ad 31), .ref (ad 32), .ref (ad 33)]) h18 hts (fun w hw => List.mem_cons_of_mem _ (fW_Cv w hw)) hown (ci := 0) (C := "NonceBox$Curve") (T := fT_Cv) (N := 14) rfl 0 (by decide) (hts _ (List.mem_cons_of_mem _ kf_Cv_16)) rfl (v := .ref (ad 19)) rfl d_Cv_step_1 ?_
  refine lv_aload_n hx hb d_Cv_step_4 rfl (lv_at hl 1 rfl) ?_
  refine lv_aload_n hx hb d_Cv_step_5 rfl (lv_at hl 2 rfl) ?_
  refine lv_aload_n hx hb d_Cv_step_6 rfl (lv_at hl 0 rfl) ?_
  refine wv_getf hx hb h 18 (by decide) (fs := [.ref (ad 19), .ref (ad 21), .ref (ad 22), .ref (ad 23), .ref (ad 24), .ref (ad 25), .ref (ad 26), .ref (ad 27), .ref (ad 28), .ref (ad 29), .ref (ad 30), .ref (ad 31), .ref (ad 32), .ref (ad 33)]) h18 hts (fun w hw => List.mem_cons_of_mem _ (fW_Cv w hw)) hown (ci := 0) (C := "NonceBox$Curve") (T := fT_Cv) (N := 14) rfl 7 (by decide) (hts _ (List.mem_cons_of_mem _ kf_Cv_46)) rfl (v := .ref (ad 27)) rfl d_Cv_step_7 ?_
  refine wv_V (As := [.ref (ad 24), .ref (ad 25), .ref (ad 27)]) (rest := []) (k := 3) ⟨hx, hb, hml, hown, hts⟩ h 19 (by decide) (C := "NonceBox$Field") h19 rfl (m_Fd_plus l G A ad ev 19 20 10 21 19 608 (by decide) h19 (by decide) (by decide) 24 25 27 Ra Rb zE (by decide) (by decide) (by decide) ha hb' h27 (by decide)) kc_Fd_plus kl_Cv_111 km_Fd_plus kv_Fd_plus ki_Fd (by decide +kernel) ⟨rfl, rfl, Nat.le_of_ble_eq_true rfl, Nat.le_of_ble_eq_true rfl⟩ hl.1 rfl rfl (Nat.le_of_ble_eq_true rfl) ⟨Nat.le_refl _, Nat.le_refl _⟩ d_Cv_step_10 ?_
  intro ov ev1 H locs hp h
  rw [hp.1]
  refine W.eq (g2 := F0 m 13 ls []) rfl ?_
  have o1 : ev1 = (va_up ev 27 (eJ G 10 (pl Ra Rb))) := hp.2
  have t1_27 : ev1 27 = eJ G 10 (pl Ra Rb) := by rw [o1, va_up_self]
  have t1_24 := (show ev1 24 = ev 24 by rw [o1, va_up_ne _ _ (by decide)]).trans ha
  have t1_25 := (show ev1 25 = ev 25 by rw [o1, va_up_ne _ _ (by decide)]).trans hb'
  have t1_22 := (show ev1 22 = ev 22 by rw [o1, va_up_ne _ _ (by decide)]).trans hc
  have t1_23 := (show ev1 23 = ev 23 by rw [o1, va_up_ne _ _ (by decide)]).trans hd
  have t1_26 := (show ev1 26 = ev 26 by rw [o1, va_up_ne _ _ (by decide)]).trans hu
  have t1_28 := (show ev1 28 = ev 28 by rw [o1, va_up_ne _ _ (by decide)]).trans h28
  have t1_29 := (show ev1 29 = ev 29 by rw [o1, va_up_ne _ _ (by decide)]).trans h29
  have t1_30 := (show ev1 30 = ev 30 by rw [o1, va_up_ne _ _ (by decide)]).trans h30
  have t1_31 := (show ev1 31 = ev 31 by rw [o1, va_up_ne _ _ (by decide)]).trans h31
  have t1_32 := (show ev1 32 = ev 32 by rw [o1, va_up_ne _ _ (by decide)]).trans h32
  have t1_33 := (show ev1 33 = ev 33 by rw [o1, va_up_ne _ _ (by decide)]).trans h33
  have t1_20 := (show ev1 20 = ev 20 by rw [o1, va_up_ne _ _ (by decide)]).trans h20
  have t1_18 := (show ev1 18 = ev 18 by rw [o1, va_up_ne _ _ (by decide)]).trans h18
  have t1_19 := (show ev1 19 = ev 19 by rw [o1, va_up_ne _ _ (by decide)]).trans h19
  refine lv_aload_n hx hb d_Cv_step_13 rfl (lv_at hl 0 rfl) ?_
  refine wv_getf hx hb h 18 (by decide) (fs := [.ref (ad 19), .ref (ad 21), .ref (ad 22), .ref (ad 23), .ref (ad 24), .ref (ad 25), .ref (ad 26), .ref (ad 27), .ref (ad 28), .ref (ad 29), .ref (ad 30), .ref (ad 31), .ref (ad 32), .ref (ad 33)]) t1_18 hts (fun w hw => List.mem_cons_of_mem _ (fW_Cv w hw)) hown (ci := 0) (C := "NonceBox$Curve") (T := fT_Cv) (N := 14) rfl 0 (by decide) (hts _ (List.mem_cons_of_mem _ kf_Cv_16)) rfl (v := .ref (ad 19)) rfl d_Cv_step_14 ?_
  refine lv_aload_n hx hb d_Cv_step_17 rfl (lv_at hl 1 rfl) ?_
  refine lv_aload_n hx hb d_Cv_step_18 rfl (lv_at hl 2 rfl) ?_
  refine lv_aload_n hx hb d_Cv_step_19 rfl (lv_at hl 0 rfl) ?_
  refine wv_getf hx hb h 18 (by decide) (fs := [.ref (ad 19), .ref (ad 21), .ref (ad 22), .ref (ad 23), .ref (ad 24), .ref (ad 25), .ref (ad 26), .ref (ad 27), .ref (ad 28), .ref (ad 29), .ref (ad 30), .ref (ad 31), .ref (ad 32), .ref (ad 33)]) t1_18 hts (fun w hw => List.mem_cons_of_mem _ (fW_Cv w hw)) hown (ci := 0) (C := "NonceBox$Curve") (T := fT_Cv) (N := 14) rfl 8 (by decide) (hts _ (List.mem_cons_of_mem _ kf_Cv_49)) rfl (v := .ref (ad 28)) rfl d_Cv_step_20 ?_
  refine wv_V (As := [.ref (ad 24), .ref (ad 25), .ref (ad 28)]) (rest := []) (k := 3) ⟨hx, hb, hml, hown, hts⟩ h 19 (by decide) (C := "NonceBox$Field") t1_19 rfl (m_Fd_minus l G A ad ev1 19 20 10 21 19 608 (by decide) t1_19 (by decide) (by decide) 24 25 28 Ra Rb zF (by decide) (by decide) (by decide) t1_24 t1_25 t1_28 (by decide)) kc_Fd_minus kl_Cv_114 km_Fd_minus kv_Fd_minus ki_Fd (by decide +kernel) ⟨rfl, rfl, Nat.le_of_ble_eq_true rfl, Nat.le_of_ble_eq_true rfl⟩ hl.1 rfl rfl (Nat.le_of_ble_eq_true rfl) ⟨Nat.le_refl _, Nat.le_refl _⟩ d_Cv_step_23 ?_
  intro ov ev2 H locs hp h
  rw [hp.1]
  refine W.eq (g2 := F0 m 26 ls []) rfl ?_
  have o2 : ev2 = (va_up ev1 28 (eJ G 10 (mi Ra Rb))) := hp.2
  have t2_28 : ev2 28 = eJ G 10 (mi Ra Rb) := by rw [o2, va_up_self]
  have t2_24 := (show ev2 24 = ev1 24 by rw [o2, va_up_ne _ _ (by decide)]).trans t1_24
  have t2_25 := (show ev2 25 = ev1 25 by rw [o2, va_up_ne _ _ (by decide)]).trans t1_25
  have t2_22 := (show ev2 22 = ev1 22 by rw [o2, va_up_ne _ _ (by decide)]).trans t1_22
  have t2_23 := (show ev2 23 = ev1 23 by rw [o2, va_up_ne _ _ (by decide)]).trans t1_23
  have t2_26 := (show ev2 26 = ev1 26 by rw [o2, va_up_ne _ _ (by decide)]).trans t1_26
  have t2_27 := (show ev2 27 = ev1 27 by rw [o2, va_up_ne _ _ (by decide)]).trans t1_27
  have t2_29 := (show ev2 29 = ev1 29 by rw [o2, va_up_ne _ _ (by decide)]).trans t1_29
  have t2_30 := (show ev2 30 = ev1 30 by rw [o2, va_up_ne _ _ (by decide)]).trans t1_30
  have t2_31 := (show ev2 31 = ev1 31 by rw [o2, va_up_ne _ _ (by decide)]).trans t1_31
  have t2_32 := (show ev2 32 = ev1 32 by rw [o2, va_up_ne _ _ (by decide)]).trans t1_32
  have t2_33 := (show ev2 33 = ev1 33 by rw [o2, va_up_ne _ _ (by decide)]).trans t1_33
  have t2_20 := (show ev2 20 = ev1 20 by rw [o2, va_up_ne _ _ (by decide)]).trans t1_20
  have t2_18 := (show ev2 18 = ev1 18 by rw [o2, va_up_ne _ _ (by decide)]).trans t1_18
  have t2_19 := (show ev2 19 = ev1 19 by rw [o2, va_up_ne _ _ (by decide)]).trans t1_19
  refine lv_aload_n hx hb d_Cv_step_26 rfl (lv_at hl 0 rfl) ?_
  refine wv_getf hx hb h 18 (by decide) (fs := [.ref (ad 19), .ref (ad 21), .ref (ad 22), .ref (ad 23), .ref (ad 24), .ref (ad 25), .ref (ad 26), .ref (ad 27), .ref (ad 28), .ref (ad 29), .ref (ad 30), .ref (ad 31), .ref (ad 32), .ref (ad 33)]) t2_18 hts (fun w hw => List.mem_cons_of_mem _ (fW_Cv w hw)) hown (ci := 0) (C := "NonceBox$Curve") (T := fT_Cv) (N := 14) rfl 0 (by decide) (hts _ (List.mem_cons_of_mem _ kf_Cv_16)) rfl (v := .ref (ad 19)) rfl d_Cv_step_27 ?_
  refine lv_aload_n hx hb d_Cv_step_30 rfl (lv_at hl 3 rfl) ?_
  refine lv_aload hx hb d_Cv_step_31 (lv_at hl 4 rfl) ?_
  refine lv_aload_n hx hb d_Cv_step_33 rfl (lv_at hl 0 rfl) ?_
  refine wv_getf hx hb h 18 (by decide) (fs := [.ref (ad 19), .ref (ad 21), .ref (ad 22), .ref (ad 23), .ref (ad 24), .ref (ad 25), .ref (ad 26), .ref (ad 27), .ref (ad 28), .ref (ad 29), .ref (ad 30), .ref (ad 31), .ref (ad 32), .ref (ad 33)]) t2_18 hts (fun w hw => List.mem_cons_of_mem _ (fW_Cv w hw)) hown (ci := 0) (C := "NonceBox$Curve") (T := fT_Cv) (N := 14) rfl 9 (by decide) (hts _ (List.mem_cons_of_mem _ kf_Cv_52)) rfl (v := .ref (ad 29)) rfl d_Cv_step_34 ?_
  refine wv_V (As := [.ref (ad 22), .ref (ad 23), .ref (ad 29)]) (rest := []) (k := 3) ⟨hx, hb, hml, hown, hts⟩ h 19 (by decide) (C := "NonceBox$Field") t2_19 rfl (m_Fd_plus l G A ad ev2 19 20 10 21 19 608 (by decide) t2_19 (by decide) (by decide) 22 23 29 Rc Rd zG (by decide) (by decide) (by decide) t2_22 t2_23 t2_29 (by decide)) kc_Fd_plus kl_Cv_111 km_Fd_plus kv_Fd_plus ki_Fd (by decide +kernel) ⟨rfl, rfl, Nat.le_of_ble_eq_true rfl, Nat.le_of_ble_eq_true rfl⟩ hl.1 rfl rfl (Nat.le_of_ble_eq_true rfl) ⟨Nat.le_refl _, Nat.le_refl _⟩ d_Cv_step_37 ?_
  intro ov ev3 H locs hp h
  rw [hp.1]
  refine W.eq (g2 := F0 m 40 ls []) rfl ?_
  have o3 : ev3 = (va_up ev2 29 (eJ G 10 (pl Rc Rd))) := hp.2
  have t3_29 : ev3 29 = eJ G 10 (pl Rc Rd) := by rw [o3, va_up_self]
  have t3_24 := (show ev3 24 = ev2 24 by rw [o3, va_up_ne _ _ (by decide)]).trans t2_24
  have t3_25 := (show ev3 25 = ev2 25 by rw [o3, va_up_ne _ _ (by decide)]).trans t2_25
  have t3_22 := (show ev3 22 = ev2 22 by rw [o3, va_up_ne _ _ (by decide)]).trans t2_22
  have t3_23 := (show ev3 23 = ev2 23 by rw [o3, va_up_ne _ _ (by decide)]).trans t2_23
  have t3_26 := (show ev3 26 = ev2 26 by rw [o3, va_up_ne _ _ (by decide)]).trans t2_26
  have t3_27 := (show ev3 27 = ev2 27 by rw [o3, va_up_ne _ _ (by decide)]).trans t2_27
  have t3_28 := (show ev3 28 = ev2 28 by rw [o3, va_up_ne _ _ (by decide)]).trans t2_28
  have t3_30 := (show ev3 30 = ev2 30 by rw [o3, va_up_ne _ _ (by decide)]).trans t2_30
  have t3_31 := (show ev3 31 = ev2 31 by rw [o3, va_up_ne _ _ (by decide)]).trans t2_31
  have t3_32 := (show ev3 32 = ev2 32 by rw [o3, va_up_ne _ _ (by decide)]).trans t2_32
  have t3_33 := (show ev3 33 = ev2 33 by rw [o3, va_up_ne _ _ (by decide)]).trans t2_33
  have t3_20 := (show ev3 20 = ev2 20 by rw [o3, va_up_ne _ _ (by decide)]).trans t2_20
  have t3_18 := (show ev3 18 = ev2 18 by rw [o3, va_up_ne _ _ (by decide)]).trans t2_18
  have t3_19 := (show ev3 19 = ev2 19 by rw [o3, va_up_ne _ _ (by decide)]).trans t2_19
  refine lv_aload_n hx hb d_Cv_step_40 rfl (lv_at hl 0 rfl) ?_
  refine wv_getf hx hb h 18 (by decide) (fs := [.ref (ad 19), .ref (ad 21), .ref (ad 22), .ref (ad 23), .ref (ad 24), .ref (ad 25), .ref (ad 26), .ref (ad 27), .ref (ad 28), .ref (ad 29), .ref (ad 30), .ref (ad 31), .ref (ad 32), .ref (ad 33)]) t3_18 hts (fun w hw => List.mem_cons_of_mem _ (fW_Cv w hw)) hown (ci := 0) (C := "NonceBox$Curve") (T := fT_Cv) (N := 14) rfl 0 (by decide) (hts _ (List.mem_cons_of_mem _ kf_Cv_16)) rfl (v := .ref (ad 19)) rfl d_Cv_step_41 ?_
  refine lv_aload_n hx hb d_Cv_step_44 rfl (lv_at hl 0 rfl) ?_
  refine wv_getf hx hb h 18 (by decide) (fs := [.ref (ad 19), .ref (ad 21), .ref (ad 22), .ref (ad 23), .ref (ad 24), .ref (ad 25), .ref (ad 26), .ref (ad 27), .ref (ad 28), .ref (ad 29), .ref (ad 30), .ref (ad 31), .ref (ad 32), .ref (ad 33)]) t3_18 hts (fun w hw => List.mem_cons_of_mem _ (fW_Cv w hw)) hown (ci := 0) (C := "NonceBox$Curve") (T := fT_Cv) (N := 14) rfl 9 (by decide) (hts _ (List.mem_cons_of_mem _ kf_Cv_52)) rfl (v := .ref (ad 29)) rfl d_Cv_step_45 ?_
  refine lv_aload_n hx hb d_Cv_step_48 rfl (lv_at hl 0 rfl) ?_
  refine wv_getf hx hb h 18 (by decide) (fs := [.ref (ad 19), .ref (ad 21), .ref (ad 22), .ref (ad 23), .ref (ad 24), .ref (ad 25), .ref (ad 26), .ref (ad 27), .ref (ad 28), .ref (ad 29), .ref (ad 30), .ref (ad 31), .ref (ad 32), .ref (ad 33)]) t3_18 hts (fun w hw => List.mem_cons_of_mem _ (fW_Cv w hw)) hown (ci := 0) (C := "NonceBox$Curve") (T := fT_Cv) (N := 14) rfl 8 (by decide) (hts _ (List.mem_cons_of_mem _ kf_Cv_49)) rfl (v := .ref (ad 28)) rfl d_Cv_step_49 ?_
  refine lv_aload_n hx hb d_Cv_step_52 rfl (lv_at hl 0 rfl) ?_
  refine wv_getf hx hb h 18 (by decide) (fs := [.ref (ad 19), .ref (ad 21), .ref (ad 22), .ref (ad 23), .ref (ad 24), .ref (ad 25), .ref (ad 26), .ref (ad 27), .ref (ad 28), .ref (ad 29), .ref (ad 30), .ref (ad 31), .ref (ad 32), .ref (ad 33)]) t3_18 hts (fun w hw => List.mem_cons_of_mem _ (fW_Cv w hw)) hown (ci := 0) (C := "NonceBox$Curve") (T := fT_Cv) (N := 14) rfl 9 (by decide) (hts _ (List.mem_cons_of_mem _ kf_Cv_52)) rfl (v := .ref (ad 29)) rfl d_Cv_step_53 ?_
  refine wv_V (As := [.ref (ad 29), .ref (ad 28), .ref (ad 29)]) (rest := []) (k := 3) ⟨hx, hb, hml, hown, hts⟩ h 19 (by decide) (C := "NonceBox$Field") t3_19 rfl (m_Fd_times l G A ad ev3 19 20 10 21 19 608 (by decide) t3_19 (by decide) (by decide) 29 28 29 (pl Rc Rd) (mi Ra Rb) (pl Rc Rd) zW (by decide) (by decide) (by decide) (by decide) t3_29 t3_28 t3_29 t3_20 (by decide) (by decide) (by decide) (by decide) (by decide)) kc_Fd_times kl_Cv_82 km_Fd_times kv_Fd_times ki_Fd (by decide +kernel) ⟨rfl, rfl, Nat.le_of_ble_eq_true rfl, Nat.le_of_ble_eq_true rfl⟩ hl.1 rfl rfl (Nat.le_of_ble_eq_true rfl) ⟨Nat.le_refl _, Nat.le_refl _⟩ d_Cv_step_56 ?_
  intro ov ev4 H locs hp h
  rw [hp.1]
  refine W.eq (g2 := F0 m 59 ls []) rfl ?_
  have o4 : ev4 = (va_up (va_up ev3 20 (eJ G 20 (wdC (pl Rc Rd) (mi Ra Rb) 10))) 29 (eJ G 10 (stG Ra Rb Rc Rd))) := hp.2
  have t4_20 : ev4 20 = eJ G 20 (wdC (pl Rc Rd) (mi Ra Rb) 10) := by rw [o4, va_up_ne _ _ (by decide), va_up_self]
  have t4_29 : ev4 29 = eJ G 10 (stG Ra Rb Rc Rd) := by rw [o4, va_up_self]
  have t4_24 := (show ev4 24 = ev3 24 by rw [o4, va_up_ne _ _ (by decide), va_up_ne _ _ (by decide)]).trans t3_24
  have t4_25 := (show ev4 25 = ev3 25 by rw [o4, va_up_ne _ _ (by decide), va_up_ne _ _ (by decide)]).trans t3_25
  have t4_22 := (show ev4 22 = ev3 22 by rw [o4, va_up_ne _ _ (by decide), va_up_ne _ _ (by decide)]).trans t3_22
  have t4_23 := (show ev4 23 = ev3 23 by rw [o4, va_up_ne _ _ (by decide), va_up_ne _ _ (by decide)]).trans t3_23
  have t4_26 := (show ev4 26 = ev3 26 by rw [o4, va_up_ne _ _ (by decide), va_up_ne _ _ (by decide)]).trans t3_26
  have t4_27 := (show ev4 27 = ev3 27 by rw [o4, va_up_ne _ _ (by decide), va_up_ne _ _ (by decide)]).trans t3_27
  have t4_28 := (show ev4 28 = ev3 28 by rw [o4, va_up_ne _ _ (by decide), va_up_ne _ _ (by decide)]).trans t3_28
  have t4_30 := (show ev4 30 = ev3 30 by rw [o4, va_up_ne _ _ (by decide), va_up_ne _ _ (by decide)]).trans t3_30
  have t4_31 := (show ev4 31 = ev3 31 by rw [o4, va_up_ne _ _ (by decide), va_up_ne _ _ (by decide)]).trans t3_31
  have t4_32 := (show ev4 32 = ev3 32 by rw [o4, va_up_ne _ _ (by decide), va_up_ne _ _ (by decide)]).trans t3_32
  have t4_33 := (show ev4 33 = ev3 33 by rw [o4, va_up_ne _ _ (by decide), va_up_ne _ _ (by decide)]).trans t3_33
  have t4_18 := (show ev4 18 = ev3 18 by rw [o4, va_up_ne _ _ (by decide), va_up_ne _ _ (by decide)]).trans t3_18
  have t4_19 := (show ev4 19 = ev3 19 by rw [o4, va_up_ne _ _ (by decide), va_up_ne _ _ (by decide)]).trans t3_19
  refine lv_aload_n hx hb d_Cv_step_59 rfl (lv_at hl 0 rfl) ?_
  refine wv_getf hx hb h 18 (by decide) (fs := [.ref (ad 19), .ref (ad 21), .ref (ad 22), .ref (ad 23), .ref (ad 24), .ref (ad 25), .ref (ad 26), .ref (ad 27), .ref (ad 28), .ref (ad 29), .ref (ad 30), .ref (ad 31), .ref (ad 32), .ref (ad 33)]) t4_18 hts (fun w hw => List.mem_cons_of_mem _ (fW_Cv w hw)) hown (ci := 0) (C := "NonceBox$Curve") (T := fT_Cv) (N := 14) rfl 0 (by decide) (hts _ (List.mem_cons_of_mem _ kf_Cv_16)) rfl (v := .ref (ad 19)) rfl d_Cv_step_60 ?_
  refine lv_aload_n hx hb d_Cv_step_63 rfl (lv_at hl 3 rfl) ?_
  refine lv_aload hx hb d_Cv_step_64 (lv_at hl 4 rfl) ?_
  refine lv_aload_n hx hb d_Cv_step_66 rfl (lv_at hl 0 rfl) ?_
  refine wv_getf hx hb h 18 (by decide) (fs := [.ref (ad 19), .ref (ad 21), .ref (ad 22), .ref (ad 23), .ref (ad 24), .ref (ad 25), .ref (ad 26), .ref (ad 27), .ref (ad 28), .ref (ad 29), .ref (ad 30), .ref (ad 31), .ref (ad 32), .ref (ad 33)]) t4_18 hts (fun w hw => List.mem_cons_of_mem _ (fW_Cv w hw)) hown (ci := 0) (C := "NonceBox$Curve") (T := fT_Cv) (N := 14) rfl 10 (by decide) (hts _ (List.mem_cons_of_mem _ kf_Cv_55)) rfl (v := .ref (ad 30)) rfl d_Cv_step_67 ?_
  refine wv_V (As := [.ref (ad 22), .ref (ad 23), .ref (ad 30)]) (rest := []) (k := 3) ⟨hx, hb, hml, hown, hts⟩ h 19 (by decide) (C := "NonceBox$Field") t4_19 rfl (m_Fd_minus l G A ad ev4 19 20 10 21 19 608 (by decide) t4_19 (by decide) (by decide) 22 23 30 Rc Rd zH (by decide) (by decide) (by decide) t4_22 t4_23 t4_30 (by decide)) kc_Fd_minus kl_Cv_114 km_Fd_minus kv_Fd_minus ki_Fd (by decide +kernel) ⟨rfl, rfl, Nat.le_of_ble_eq_true rfl, Nat.le_of_ble_eq_true rfl⟩ hl.1 rfl rfl (Nat.le_of_ble_eq_true rfl) ⟨Nat.le_refl _, Nat.le_refl _⟩ d_Cv_step_70 ?_
  intro ov ev5 H locs hp h
  rw [hp.1]
  refine W.eq (g2 := F0 m 73 ls []) rfl ?_
  have o5 : ev5 = (va_up ev4 30 (eJ G 10 (mi Rc Rd))) := hp.2
  have t5_30 : ev5 30 = eJ G 10 (mi Rc Rd) := by rw [o5, va_up_self]
  have t5_24 := (show ev5 24 = ev4 24 by rw [o5, va_up_ne _ _ (by decide)]).trans t4_24
  have t5_25 := (show ev5 25 = ev4 25 by rw [o5, va_up_ne _ _ (by decide)]).trans t4_25
  have t5_22 := (show ev5 22 = ev4 22 by rw [o5, va_up_ne _ _ (by decide)]).trans t4_22
  have t5_23 := (show ev5 23 = ev4 23 by rw [o5, va_up_ne _ _ (by decide)]).trans t4_23
  have t5_26 := (show ev5 26 = ev4 26 by rw [o5, va_up_ne _ _ (by decide)]).trans t4_26
  have t5_27 := (show ev5 27 = ev4 27 by rw [o5, va_up_ne _ _ (by decide)]).trans t4_27
  have t5_28 := (show ev5 28 = ev4 28 by rw [o5, va_up_ne _ _ (by decide)]).trans t4_28
  have t5_29 := (show ev5 29 = ev4 29 by rw [o5, va_up_ne _ _ (by decide)]).trans t4_29
  have t5_31 := (show ev5 31 = ev4 31 by rw [o5, va_up_ne _ _ (by decide)]).trans t4_31
  have t5_32 := (show ev5 32 = ev4 32 by rw [o5, va_up_ne _ _ (by decide)]).trans t4_32
  have t5_33 := (show ev5 33 = ev4 33 by rw [o5, va_up_ne _ _ (by decide)]).trans t4_33
  have t5_20 := (show ev5 20 = ev4 20 by rw [o5, va_up_ne _ _ (by decide)]).trans t4_20
  have t5_18 := (show ev5 18 = ev4 18 by rw [o5, va_up_ne _ _ (by decide)]).trans t4_18
  have t5_19 := (show ev5 19 = ev4 19 by rw [o5, va_up_ne _ _ (by decide)]).trans t4_19
  refine lv_aload_n hx hb d_Cv_step_73 rfl (lv_at hl 0 rfl) ?_
  refine wv_getf hx hb h 18 (by decide) (fs := [.ref (ad 19), .ref (ad 21), .ref (ad 22), .ref (ad 23), .ref (ad 24), .ref (ad 25), .ref (ad 26), .ref (ad 27), .ref (ad 28), .ref (ad 29), .ref (ad 30), .ref (ad 31), .ref (ad 32), .ref (ad 33)]) t5_18 hts (fun w hw => List.mem_cons_of_mem _ (fW_Cv w hw)) hown (ci := 0) (C := "NonceBox$Curve") (T := fT_Cv) (N := 14) rfl 0 (by decide) (hts _ (List.mem_cons_of_mem _ kf_Cv_16)) rfl (v := .ref (ad 19)) rfl d_Cv_step_74 ?_
  refine lv_aload_n hx hb d_Cv_step_77 rfl (lv_at hl 0 rfl) ?_
  refine wv_getf hx hb h 18 (by decide) (fs := [.ref (ad 19), .ref (ad 21), .ref (ad 22), .ref (ad 23), .ref (ad 24), .ref (ad 25), .ref (ad 26), .ref (ad 27), .ref (ad 28), .ref (ad 29), .ref (ad 30), .ref (ad 31), .ref (ad 32), .ref (ad 33)]) t5_18 hts (fun w hw => List.mem_cons_of_mem _ (fW_Cv w hw)) hown (ci := 0) (C := "NonceBox$Curve") (T := fT_Cv) (N := 14) rfl 10 (by decide) (hts _ (List.mem_cons_of_mem _ kf_Cv_55)) rfl (v := .ref (ad 30)) rfl d_Cv_step_78 ?_
  refine lv_aload_n hx hb d_Cv_step_81 rfl (lv_at hl 0 rfl) ?_
  refine wv_getf hx hb h 18 (by decide) (fs := [.ref (ad 19), .ref (ad 21), .ref (ad 22), .ref (ad 23), .ref (ad 24), .ref (ad 25), .ref (ad 26), .ref (ad 27), .ref (ad 28), .ref (ad 29), .ref (ad 30), .ref (ad 31), .ref (ad 32), .ref (ad 33)]) t5_18 hts (fun w hw => List.mem_cons_of_mem _ (fW_Cv w hw)) hown (ci := 0) (C := "NonceBox$Curve") (T := fT_Cv) (N := 14) rfl 7 (by decide) (hts _ (List.mem_cons_of_mem _ kf_Cv_46)) rfl (v := .ref (ad 27)) rfl d_Cv_step_82 ?_
  refine lv_aload_n hx hb d_Cv_step_85 rfl (lv_at hl 0 rfl) ?_
  refine wv_getf hx hb h 18 (by decide) (fs := [.ref (ad 19), .ref (ad 21), .ref (ad 22), .ref (ad 23), .ref (ad 24), .ref (ad 25), .ref (ad 26), .ref (ad 27), .ref (ad 28), .ref (ad 29), .ref (ad 30), .ref (ad 31), .ref (ad 32), .ref (ad 33)]) t5_18 hts (fun w hw => List.mem_cons_of_mem _ (fW_Cv w hw)) hown (ci := 0) (C := "NonceBox$Curve") (T := fT_Cv) (N := 14) rfl 10 (by decide) (hts _ (List.mem_cons_of_mem _ kf_Cv_55)) rfl (v := .ref (ad 30)) rfl d_Cv_step_86 ?_
  refine wv_V (As := [.ref (ad 30), .ref (ad 27), .ref (ad 30)]) (rest := []) (k := 3) ⟨hx, hb, hml, hown, hts⟩ h 19 (by decide) (C := "NonceBox$Field") t5_19 rfl (m_Fd_times l G A ad ev5 19 20 10 21 19 608 (by decide) t5_19 (by decide) (by decide) 30 27 30 (mi Rc Rd) (pl Ra Rb) (mi Rc Rd) (wdC (pl Rc Rd) (mi Ra Rb) 10) (by decide) (by decide) (by decide) (by decide) t5_30 t5_27 t5_30 t5_20 (by decide) (by decide) (by decide) (by decide) (by decide)) kc_Fd_times kl_Cv_82 km_Fd_times kv_Fd_times ki_Fd (by decide +kernel) ⟨rfl, rfl, Nat.le_of_ble_eq_true rfl, Nat.le_of_ble_eq_true rfl⟩ hl.1 rfl rfl (Nat.le_of_ble_eq_true rfl) ⟨Nat.le_refl _, Nat.le_refl _⟩ d_Cv_step_89 ?_
  intro ov ev6 H locs hp h
  rw [hp.1]
  refine W.eq (g2 := F0 m 92 ls []) rfl ?_
  have o6 : ev6 = (va_up (va_up ev5 20 (eJ G 20 (wdC (mi Rc Rd) (pl Ra Rb) 10))) 30 (eJ G 10 (stH Ra Rb Rc Rd))) := hp.2
  have t6_20 : ev6 20 = eJ G 20 (wdC (mi Rc Rd) (pl Ra Rb) 10) := by rw [o6, va_up_ne _ _ (by decide), va_up_self]
  have t6_30 : ev6 30 = eJ G 10 (stH Ra Rb Rc Rd) := by rw [o6, va_up_self]
  have t6_24 := (show ev6 24 = ev5 24 by rw [o6, va_up_ne _ _ (by decide), va_up_ne _ _ (by decide)]).trans t5_24
  have t6_25 := (show ev6 25 = ev5 25 by rw [o6, va_up_ne _ _ (by decide), va_up_ne _ _ (by decide)]).trans t5_25
  have t6_22 := (show ev6 22 = ev5 22 by rw [o6, va_up_ne _ _ (by decide), va_up_ne _ _ (by decide)]).trans t5_22
  have t6_23 := (show ev6 23 = ev5 23 by rw [o6, va_up_ne _ _ (by decide), va_up_ne _ _ (by decide)]).trans t5_23
  have t6_26 := (show ev6 26 = ev5 26 by rw [o6, va_up_ne _ _ (by decide), va_up_ne _ _ (by decide)]).trans t5_26
  have t6_27 := (show ev6 27 = ev5 27 by rw [o6, va_up_ne _ _ (by decide), va_up_ne _ _ (by decide)]).trans t5_27
  have t6_28 := (show ev6 28 = ev5 28 by rw [o6, va_up_ne _ _ (by decide), va_up_ne _ _ (by decide)]).trans t5_28
  have t6_29 := (show ev6 29 = ev5 29 by rw [o6, va_up_ne _ _ (by decide), va_up_ne _ _ (by decide)]).trans t5_29
  have t6_31 := (show ev6 31 = ev5 31 by rw [o6, va_up_ne _ _ (by decide), va_up_ne _ _ (by decide)]).trans t5_31
  have t6_32 := (show ev6 32 = ev5 32 by rw [o6, va_up_ne _ _ (by decide), va_up_ne _ _ (by decide)]).trans t5_32
  have t6_33 := (show ev6 33 = ev5 33 by rw [o6, va_up_ne _ _ (by decide), va_up_ne _ _ (by decide)]).trans t5_33
  have t6_18 := (show ev6 18 = ev5 18 by rw [o6, va_up_ne _ _ (by decide), va_up_ne _ _ (by decide)]).trans t5_18
  have t6_19 := (show ev6 19 = ev5 19 by rw [o6, va_up_ne _ _ (by decide), va_up_ne _ _ (by decide)]).trans t5_19
  refine lv_aload_n hx hb d_Cv_step_92 rfl (lv_at hl 0 rfl) ?_
  refine wv_getf hx hb h 18 (by decide) (fs := [.ref (ad 19), .ref (ad 21), .ref (ad 22), .ref (ad 23), .ref (ad 24), .ref (ad 25), .ref (ad 26), .ref (ad 27), .ref (ad 28), .ref (ad 29), .ref (ad 30), .ref (ad 31), .ref (ad 32), .ref (ad 33)]) t6_18 hts (fun w hw => List.mem_cons_of_mem _ (fW_Cv w hw)) hown (ci := 0) (C := "NonceBox$Curve") (T := fT_Cv) (N := 14) rfl 0 (by decide) (hts _ (List.mem_cons_of_mem _ kf_Cv_16)) rfl (v := .ref (ad 19)) rfl d_Cv_step_93 ?_
  refine lv_aload_n hx hb d_Cv_step_96 rfl (lv_at hl 0 rfl) ?_
  refine wv_getf hx hb h 18 (by decide) (fs := [.ref (ad 19), .ref (ad 21), .ref (ad 22), .ref (ad 23), .ref (ad 24), .ref (ad 25), .ref (ad 26), .ref (ad 27), .ref (ad 28), .ref (ad 29), .ref (ad 30), .ref (ad 31), .ref (ad 32), .ref (ad 33)]) t6_18 hts (fun w hw => List.mem_cons_of_mem _ (fW_Cv w hw)) hown (ci := 0) (C := "NonceBox$Curve") (T := fT_Cv) (N := 14) rfl 7 (by decide) (hts _ (List.mem_cons_of_mem _ kf_Cv_46)) rfl (v := .ref (ad 27)) rfl d_Cv_step_97 ?_
  refine lv_aload_n hx hb d_Cv_step_100 rfl (lv_at hl 0 rfl) ?_
  refine wv_getf hx hb h 18 (by decide) (fs := [.ref (ad 19), .ref (ad 21), .ref (ad 22), .ref (ad 23), .ref (ad 24), .ref (ad 25), .ref (ad 26), .ref (ad 27), .ref (ad 28), .ref (ad 29), .ref (ad 30), .ref (ad 31), .ref (ad 32), .ref (ad 33)]) t6_18 hts (fun w hw => List.mem_cons_of_mem _ (fW_Cv w hw)) hown (ci := 0) (C := "NonceBox$Curve") (T := fT_Cv) (N := 14) rfl 7 (by decide) (hts _ (List.mem_cons_of_mem _ kf_Cv_46)) rfl (v := .ref (ad 27)) rfl d_Cv_step_101 ?_
  refine lv_aload_n hx hb d_Cv_step_104 rfl (lv_at hl 0 rfl) ?_
  refine wv_getf hx hb h 18 (by decide) (fs := [.ref (ad 19), .ref (ad 21), .ref (ad 22), .ref (ad 23), .ref (ad 24), .ref (ad 25), .ref (ad 26), .ref (ad 27), .ref (ad 28), .ref (ad 29), .ref (ad 30), .ref (ad 31), .ref (ad 32), .ref (ad 33)]) t6_18 hts (fun w hw => List.mem_cons_of_mem _ (fW_Cv w hw)) hown (ci := 0) (C := "NonceBox$Curve") (T := fT_Cv) (N := 14) rfl 11 (by decide) (hts _ (List.mem_cons_of_mem _ kf_Cv_58)) rfl (v := .ref (ad 31)) rfl d_Cv_step_105 ?_
  refine wv_V (As := [.ref (ad 27), .ref (ad 27), .ref (ad 31)]) (rest := []) (k := 3) ⟨hx, hb, hml, hown, hts⟩ h 19 (by decide) (C := "NonceBox$Field") t6_19 rfl (m_Fd_times l G A ad ev6 19 20 10 21 19 608 (by decide) t6_19 (by decide) (by decide) 27 27 31 (pl Ra Rb) (pl Ra Rb) zQ (wdC (mi Rc Rd) (pl Ra Rb) 10) (by decide) (by decide) (by decide) (by decide) t6_27 t6_27 t6_31 t6_20 (by decide) (by decide) (by decide) (by decide) (by decide)) kc_Fd_times kl_Cv_82 km_Fd_times kv_Fd_times ki_Fd (by decide +kernel) ⟨rfl, rfl, Nat.le_of_ble_eq_true rfl, Nat.le_of_ble_eq_true rfl⟩ hl.1 rfl rfl (Nat.le_of_ble_eq_true rfl) ⟨Nat.le_refl _, Nat.le_refl _⟩ d_Cv_step_108 ?_
  intro ov ev7 H locs hp h
  rw [hp.1]
  refine W.eq (g2 := F0 m 111 ls []) rfl ?_
  have o7 : ev7 = (va_up (va_up ev6 20 (eJ G 20 (wdC (pl Ra Rb) (pl Ra Rb) 10))) 31 (eJ G 10 (stQ Ra Rb))) := hp.2
  have t7_20 : ev7 20 = eJ G 20 (wdC (pl Ra Rb) (pl Ra Rb) 10) := by rw [o7, va_up_ne _ _ (by decide), va_up_self]
  have t7_31 : ev7 31 = eJ G 10 (stQ Ra Rb) := by rw [o7, va_up_self]
  have t7_24 := (show ev7 24 = ev6 24 by rw [o7, va_up_ne _ _ (by decide), va_up_ne _ _ (by decide)]).trans t6_24
  have t7_25 := (show ev7 25 = ev6 25 by rw [o7, va_up_ne _ _ (by decide), va_up_ne _ _ (by decide)]).trans t6_25
  have t7_22 := (show ev7 22 = ev6 22 by rw [o7, va_up_ne _ _ (by decide), va_up_ne _ _ (by decide)]).trans t6_22
  have t7_23 := (show ev7 23 = ev6 23 by rw [o7, va_up_ne _ _ (by decide), va_up_ne _ _ (by decide)]).trans t6_23
  have t7_26 := (show ev7 26 = ev6 26 by rw [o7, va_up_ne _ _ (by decide), va_up_ne _ _ (by decide)]).trans t6_26
  have t7_27 := (show ev7 27 = ev6 27 by rw [o7, va_up_ne _ _ (by decide), va_up_ne _ _ (by decide)]).trans t6_27
  have t7_28 := (show ev7 28 = ev6 28 by rw [o7, va_up_ne _ _ (by decide), va_up_ne _ _ (by decide)]).trans t6_28
  have t7_29 := (show ev7 29 = ev6 29 by rw [o7, va_up_ne _ _ (by decide), va_up_ne _ _ (by decide)]).trans t6_29
  have t7_30 := (show ev7 30 = ev6 30 by rw [o7, va_up_ne _ _ (by decide), va_up_ne _ _ (by decide)]).trans t6_30
  have t7_32 := (show ev7 32 = ev6 32 by rw [o7, va_up_ne _ _ (by decide), va_up_ne _ _ (by decide)]).trans t6_32
  have t7_33 := (show ev7 33 = ev6 33 by rw [o7, va_up_ne _ _ (by decide), va_up_ne _ _ (by decide)]).trans t6_33
  have t7_18 := (show ev7 18 = ev6 18 by rw [o7, va_up_ne _ _ (by decide), va_up_ne _ _ (by decide)]).trans t6_18
  have t7_19 := (show ev7 19 = ev6 19 by rw [o7, va_up_ne _ _ (by decide), va_up_ne _ _ (by decide)]).trans t6_19
  refine lv_aload_n hx hb d_Cv_step_111 rfl (lv_at hl 0 rfl) ?_
  refine wv_getf hx hb h 18 (by decide) (fs := [.ref (ad 19), .ref (ad 21), .ref (ad 22), .ref (ad 23), .ref (ad 24), .ref (ad 25), .ref (ad 26), .ref (ad 27), .ref (ad 28), .ref (ad 29), .ref (ad 30), .ref (ad 31), .ref (ad 32), .ref (ad 33)]) t7_18 hts (fun w hw => List.mem_cons_of_mem _ (fW_Cv w hw)) hown (ci := 0) (C := "NonceBox$Curve") (T := fT_Cv) (N := 14) rfl 0 (by decide) (hts _ (List.mem_cons_of_mem _ kf_Cv_16)) rfl (v := .ref (ad 19)) rfl d_Cv_step_112 ?_
  refine lv_aload_n hx hb d_Cv_step_115 rfl (lv_at hl 0 rfl) ?_
  refine wv_getf hx hb h 18 (by decide) (fs := [.ref (ad 19), .ref (ad 21), .ref (ad 22), .ref (ad 23), .ref (ad 24), .ref (ad 25), .ref (ad 26), .ref (ad 27), .ref (ad 28), .ref (ad 29), .ref (ad 30), .ref (ad 31), .ref (ad 32), .ref (ad 33)]) t7_18 hts (fun w hw => List.mem_cons_of_mem _ (fW_Cv w hw)) hown (ci := 0) (C := "NonceBox$Curve") (T := fT_Cv) (N := 14) rfl 8 (by decide) (hts _ (List.mem_cons_of_mem _ kf_Cv_49)) rfl (v := .ref (ad 28)) rfl d_Cv_step_116 ?_
  refine lv_aload_n hx hb d_Cv_step_119 rfl (lv_at hl 0 rfl) ?_
  refine wv_getf hx hb h 18 (by decide) (fs := [.ref (ad 19), .ref (ad 21), .ref (ad 22), .ref (ad 23), .ref (ad 24), .ref (ad 25), .ref (ad 26), .ref (ad 27), .ref (ad 28), .ref (ad 29), .ref (ad 30), .ref (ad 31), .ref (ad 32), .ref (ad 33)]) t7_18 hts (fun w hw => List.mem_cons_of_mem _ (fW_Cv w hw)) hown (ci := 0) (C := "NonceBox$Curve") (T := fT_Cv) (N := 14) rfl 8 (by decide) (hts _ (List.mem_cons_of_mem _ kf_Cv_49)) rfl (v := .ref (ad 28)) rfl d_Cv_step_120 ?_
  refine lv_aload_n hx hb d_Cv_step_123 rfl (lv_at hl 0 rfl) ?_
  refine wv_getf hx hb h 18 (by decide) (fs := [.ref (ad 19), .ref (ad 21), .ref (ad 22), .ref (ad 23), .ref (ad 24), .ref (ad 25), .ref (ad 26), .ref (ad 27), .ref (ad 28), .ref (ad 29), .ref (ad 30), .ref (ad 31), .ref (ad 32), .ref (ad 33)]) t7_18 hts (fun w hw => List.mem_cons_of_mem _ (fW_Cv w hw)) hown (ci := 0) (C := "NonceBox$Curve") (T := fT_Cv) (N := 14) rfl 12 (by decide) (hts _ (List.mem_cons_of_mem _ kf_Cv_61)) rfl (v := .ref (ad 32)) rfl d_Cv_step_124 ?_
  refine wv_V (As := [.ref (ad 28), .ref (ad 28), .ref (ad 32)]) (rest := []) (k := 3) ⟨hx, hb, hml, hown, hts⟩ h 19 (by decide) (C := "NonceBox$Field") t7_19 rfl (m_Fd_times l G A ad ev7 19 20 10 21 19 608 (by decide) t7_19 (by decide) (by decide) 28 28 32 (mi Ra Rb) (mi Ra Rb) zR (wdC (pl Ra Rb) (pl Ra Rb) 10) (by decide) (by decide) (by decide) (by decide) t7_28 t7_28 t7_32 t7_20 (by decide) (by decide) (by decide) (by decide) (by decide)) kc_Fd_times kl_Cv_82 km_Fd_times kv_Fd_times ki_Fd (by decide +kernel) ⟨rfl, rfl, Nat.le_of_ble_eq_true rfl, Nat.le_of_ble_eq_true rfl⟩ hl.1 rfl rfl (Nat.le_of_ble_eq_true rfl) ⟨Nat.le_refl _, Nat.le_refl _⟩ d_Cv_step_127 ?_
  intro ov ev8 H locs hp h
  rw [hp.1]
  refine W.eq (g2 := F0 m 130 ls []) rfl ?_
  have o8 : ev8 = (va_up (va_up ev7 20 (eJ G 20 (wdC (mi Ra Rb) (mi Ra Rb) 10))) 32 (eJ G 10 (stR Ra Rb))) := hp.2
  have t8_20 : ev8 20 = eJ G 20 (wdC (mi Ra Rb) (mi Ra Rb) 10) := by rw [o8, va_up_ne _ _ (by decide), va_up_self]
  have t8_32 : ev8 32 = eJ G 10 (stR Ra Rb) := by rw [o8, va_up_self]
  have t8_24 := (show ev8 24 = ev7 24 by rw [o8, va_up_ne _ _ (by decide), va_up_ne _ _ (by decide)]).trans t7_24
  have t8_25 := (show ev8 25 = ev7 25 by rw [o8, va_up_ne _ _ (by decide), va_up_ne _ _ (by decide)]).trans t7_25
  have t8_22 := (show ev8 22 = ev7 22 by rw [o8, va_up_ne _ _ (by decide), va_up_ne _ _ (by decide)]).trans t7_22
  have t8_23 := (show ev8 23 = ev7 23 by rw [o8, va_up_ne _ _ (by decide), va_up_ne _ _ (by decide)]).trans t7_23
  have t8_26 := (show ev8 26 = ev7 26 by rw [o8, va_up_ne _ _ (by decide), va_up_ne _ _ (by decide)]).trans t7_26
  have t8_27 := (show ev8 27 = ev7 27 by rw [o8, va_up_ne _ _ (by decide), va_up_ne _ _ (by decide)]).trans t7_27
  have t8_28 := (show ev8 28 = ev7 28 by rw [o8, va_up_ne _ _ (by decide), va_up_ne _ _ (by decide)]).trans t7_28
  have t8_29 := (show ev8 29 = ev7 29 by rw [o8, va_up_ne _ _ (by decide), va_up_ne _ _ (by decide)]).trans t7_29
  have t8_30 := (show ev8 30 = ev7 30 by rw [o8, va_up_ne _ _ (by decide), va_up_ne _ _ (by decide)]).trans t7_30
  have t8_31 := (show ev8 31 = ev7 31 by rw [o8, va_up_ne _ _ (by decide), va_up_ne _ _ (by decide)]).trans t7_31
  have t8_33 := (show ev8 33 = ev7 33 by rw [o8, va_up_ne _ _ (by decide), va_up_ne _ _ (by decide)]).trans t7_33
  have t8_18 := (show ev8 18 = ev7 18 by rw [o8, va_up_ne _ _ (by decide), va_up_ne _ _ (by decide)]).trans t7_18
  have t8_19 := (show ev8 19 = ev7 19 by rw [o8, va_up_ne _ _ (by decide), va_up_ne _ _ (by decide)]).trans t7_19
  refine lv_aload_n hx hb d_Cv_step_130 rfl (lv_at hl 0 rfl) ?_
  refine wv_getf hx hb h 18 (by decide) (fs := [.ref (ad 19), .ref (ad 21), .ref (ad 22), .ref (ad 23), .ref (ad 24), .ref (ad 25), .ref (ad 26), .ref (ad 27), .ref (ad 28), .ref (ad 29), .ref (ad 30), .ref (ad 31), .ref (ad 32), .ref (ad 33)]) t8_18 hts (fun w hw => List.mem_cons_of_mem _ (fW_Cv w hw)) hown (ci := 0) (C := "NonceBox$Curve") (T := fT_Cv) (N := 14) rfl 0 (by decide) (hts _ (List.mem_cons_of_mem _ kf_Cv_16)) rfl (v := .ref (ad 19)) rfl d_Cv_step_131 ?_
  refine lv_aload_n hx hb d_Cv_step_134 rfl (lv_at hl 0 rfl) ?_
  refine wv_getf hx hb h 18 (by decide) (fs := [.ref (ad 19), .ref (ad 21), .ref (ad 22), .ref (ad 23), .ref (ad 24), .ref (ad 25), .ref (ad 26), .ref (ad 27), .ref (ad 28), .ref (ad 29), .ref (ad 30), .ref (ad 31), .ref (ad 32), .ref (ad 33)]) t8_18 hts (fun w hw => List.mem_cons_of_mem _ (fW_Cv w hw)) hown (ci := 0) (C := "NonceBox$Curve") (T := fT_Cv) (N := 14) rfl 11 (by decide) (hts _ (List.mem_cons_of_mem _ kf_Cv_58)) rfl (v := .ref (ad 31)) rfl d_Cv_step_135 ?_
  refine lv_aload_n hx hb d_Cv_step_138 rfl (lv_at hl 0 rfl) ?_
  refine wv_getf hx hb h 18 (by decide) (fs := [.ref (ad 19), .ref (ad 21), .ref (ad 22), .ref (ad 23), .ref (ad 24), .ref (ad 25), .ref (ad 26), .ref (ad 27), .ref (ad 28), .ref (ad 29), .ref (ad 30), .ref (ad 31), .ref (ad 32), .ref (ad 33)]) t8_18 hts (fun w hw => List.mem_cons_of_mem _ (fW_Cv w hw)) hown (ci := 0) (C := "NonceBox$Curve") (T := fT_Cv) (N := 14) rfl 12 (by decide) (hts _ (List.mem_cons_of_mem _ kf_Cv_61)) rfl (v := .ref (ad 32)) rfl d_Cv_step_139 ?_
  refine lv_aload_n hx hb d_Cv_step_142 rfl (lv_at hl 0 rfl) ?_
  refine wv_getf hx hb h 18 (by decide) (fs := [.ref (ad 19), .ref (ad 21), .ref (ad 22), .ref (ad 23), .ref (ad 24), .ref (ad 25), .ref (ad 26), .ref (ad 27), .ref (ad 28), .ref (ad 29), .ref (ad 30), .ref (ad 31), .ref (ad 32), .ref (ad 33)]) t8_18 hts (fun w hw => List.mem_cons_of_mem _ (fW_Cv w hw)) hown (ci := 0) (C := "NonceBox$Curve") (T := fT_Cv) (N := 14) rfl 13 (by decide) (hts _ (List.mem_cons_of_mem _ kf_Cv_64)) rfl (v := .ref (ad 33)) rfl d_Cv_step_143 ?_
  refine wv_V (As := [.ref (ad 31), .ref (ad 32), .ref (ad 33)]) (rest := []) (k := 3) ⟨hx, hb, hml, hown, hts⟩ h 19 (by decide) (C := "NonceBox$Field") t8_19 rfl (m_Fd_minus l G A ad ev8 19 20 10 21 19 608 (by decide) t8_19 (by decide) (by decide) 31 32 33 (stQ Ra Rb) (stR Ra Rb) zT (by decide) (by decide) (by decide) t8_31 t8_32 t8_33 (by decide)) kc_Fd_minus kl_Cv_114 km_Fd_minus kv_Fd_minus ki_Fd (by decide +kernel) ⟨rfl, rfl, Nat.le_of_ble_eq_true rfl, Nat.le_of_ble_eq_true rfl⟩ hl.1 rfl rfl (Nat.le_of_ble_eq_true rfl) ⟨Nat.le_refl _, Nat.le_refl _⟩ d_Cv_step_146 ?_
  intro ov ev9 H locs hp h
  rw [hp.1]
  refine W.eq (g2 := F0 m 149 ls []) rfl ?_
  have o9 : ev9 = (va_up ev8 33 (eJ G 10 (stT Ra Rb))) := hp.2
  have t9_33 : ev9 33 = eJ G 10 (stT Ra Rb) := by rw [o9, va_up_self]
  have t9_24 := (show ev9 24 = ev8 24 by rw [o9, va_up_ne _ _ (by decide)]).trans t8_24
  have t9_25 := (show ev9 25 = ev8 25 by rw [o9, va_up_ne _ _ (by decide)]).trans t8_25
  have t9_22 := (show ev9 22 = ev8 22 by rw [o9, va_up_ne _ _ (by decide)]).trans t8_22
  have t9_23 := (show ev9 23 = ev8 23 by rw [o9, va_up_ne _ _ (by decide)]).trans t8_23
  have t9_26 := (show ev9 26 = ev8 26 by rw [o9, va_up_ne _ _ (by decide)]).trans t8_26
  have t9_27 := (show ev9 27 = ev8 27 by rw [o9, va_up_ne _ _ (by decide)]).trans t8_27
  have t9_28 := (show ev9 28 = ev8 28 by rw [o9, va_up_ne _ _ (by decide)]).trans t8_28
  have t9_29 := (show ev9 29 = ev8 29 by rw [o9, va_up_ne _ _ (by decide)]).trans t8_29
  have t9_30 := (show ev9 30 = ev8 30 by rw [o9, va_up_ne _ _ (by decide)]).trans t8_30
  have t9_31 := (show ev9 31 = ev8 31 by rw [o9, va_up_ne _ _ (by decide)]).trans t8_31
  have t9_32 := (show ev9 32 = ev8 32 by rw [o9, va_up_ne _ _ (by decide)]).trans t8_32
  have t9_20 := (show ev9 20 = ev8 20 by rw [o9, va_up_ne _ _ (by decide)]).trans t8_20
  have t9_18 := (show ev9 18 = ev8 18 by rw [o9, va_up_ne _ _ (by decide)]).trans t8_18
  have t9_19 := (show ev9 19 = ev8 19 by rw [o9, va_up_ne _ _ (by decide)]).trans t8_19
  refine lv_aload_n hx hb d_Cv_step_149 rfl (lv_at hl 0 rfl) ?_
  refine wv_getf hx hb h 18 (by decide) (fs := [.ref (ad 19), .ref (ad 21), .ref (ad 22), .ref (ad 23), .ref (ad 24), .ref (ad 25), .ref (ad 26), .ref (ad 27), .ref (ad 28), .ref (ad 29), .ref (ad 30), .ref (ad 31), .ref (ad 32), .ref (ad 33)]) t9_18 hts (fun w hw => List.mem_cons_of_mem _ (fW_Cv w hw)) hown (ci := 0) (C := "NonceBox$Curve") (T := fT_Cv) (N := 14) rfl 0 (by decide) (hts _ (List.mem_cons_of_mem _ kf_Cv_16)) rfl (v := .ref (ad 19)) rfl d_Cv_step_150 ?_
  refine lv_aload_n hx hb d_Cv_step_153 rfl (lv_at hl 0 rfl) ?_
  refine wv_getf hx hb h 18 (by decide) (fs := [.ref (ad 19), .ref (ad 21), .ref (ad 22), .ref (ad 23), .ref (ad 24), .ref (ad 25), .ref (ad 26), .ref (ad 27), .ref (ad 28), .ref (ad 29), .ref (ad 30), .ref (ad 31), .ref (ad 32), .ref (ad 33)]) t9_18 hts (fun w hw => List.mem_cons_of_mem _ (fW_Cv w hw)) hown (ci := 0) (C := "NonceBox$Curve") (T := fT_Cv) (N := 14) rfl 9 (by decide) (hts _ (List.mem_cons_of_mem _ kf_Cv_52)) rfl (v := .ref (ad 29)) rfl d_Cv_step_154 ?_
  refine lv_aload_n hx hb d_Cv_step_157 rfl (lv_at hl 0 rfl) ?_
  refine wv_getf hx hb h 18 (by decide) (fs := [.ref (ad 19), .ref (ad 21), .ref (ad 22), .ref (ad 23), .ref (ad 24), .ref (ad 25), .ref (ad 26), .ref (ad 27), .ref (ad 28), .ref (ad 29), .ref (ad 30), .ref (ad 31), .ref (ad 32), .ref (ad 33)]) t9_18 hts (fun w hw => List.mem_cons_of_mem _ (fW_Cv w hw)) hown (ci := 0) (C := "NonceBox$Curve") (T := fT_Cv) (N := 14) rfl 10 (by decide) (hts _ (List.mem_cons_of_mem _ kf_Cv_55)) rfl (v := .ref (ad 30)) rfl d_Cv_step_158 ?_
  refine lv_aload_n hx hb d_Cv_step_161 rfl (lv_at hl 3 rfl) ?_
  refine wv_V (As := [.ref (ad 29), .ref (ad 30), .ref (ad 22)]) (rest := []) (k := 3) ⟨hx, hb, hml, hown, hts⟩ h 19 (by decide) (C := "NonceBox$Field") t9_19 rfl (m_Fd_plus l G A ad ev9 19 20 10 21 19 608 (by decide) t9_19 (by decide) (by decide) 29 30 22 (stG Ra Rb Rc Rd) (stH Ra Rb Rc Rd) Rc (by decide) (by decide) (by decide) t9_29 t9_30 t9_22 (by decide)) kc_Fd_plus kl_Cv_111 km_Fd_plus kv_Fd_plus ki_Fd (by decide +kernel) ⟨rfl, rfl, Nat.le_of_ble_eq_true rfl, Nat.le_of_ble_eq_true rfl⟩ hl.1 rfl rfl (Nat.le_of_ble_eq_true rfl) ⟨Nat.le_refl _, Nat.le_refl _⟩ d_Cv_step_162 ?_
  intro ov ev10 H locs hp h
  rw [hp.1]
  refine W.eq (g2 := F0 m 165 ls []) rfl ?_
  have o10 : ev10 = (va_up ev9 22 (eJ G 10 (pl (stG Ra Rb Rc Rd) (stH Ra Rb Rc Rd)))) := hp.2
  have t10_22 : ev10 22 = eJ G 10 (pl (stG Ra Rb Rc Rd) (stH Ra Rb Rc Rd)) := by rw [o10, va_up_self]
  have t10_24 := (show ev10 24 = ev9 24 by rw [o10, va_up_ne _ _ (by decide)]).trans t9_24
  have t10_25 := (show ev10 25 = ev9 25 by rw [o10, va_up_ne _ _ (by decide)]).trans t9_25
  have t10_23 := (show ev10 23 = ev9 23 by rw [o10, va_up_ne _ _ (by decide)]).trans t9_23
  have t10_26 := (show ev10 26 = ev9 26 by rw [o10, va_up_ne _ _ (by decide)]).trans t9_26
  have t10_27 := (show ev10 27 = ev9 27 by rw [o10, va_up_ne _ _ (by decide)]).trans t9_27
  have t10_28 := (show ev10 28 = ev9 28 by rw [o10, va_up_ne _ _ (by decide)]).trans t9_28
  have t10_29 := (show ev10 29 = ev9 29 by rw [o10, va_up_ne _ _ (by decide)]).trans t9_29
  have t10_30 := (show ev10 30 = ev9 30 by rw [o10, va_up_ne _ _ (by decide)]).trans t9_30
  have t10_31 := (show ev10 31 = ev9 31 by rw [o10, va_up_ne _ _ (by decide)]).trans t9_31
  have t10_32 := (show ev10 32 = ev9 32 by rw [o10, va_up_ne _ _ (by decide)]).trans t9_32
  have t10_33 := (show ev10 33 = ev9 33 by rw [o10, va_up_ne _ _ (by decide)]).trans t9_33
  have t10_20 := (show ev10 20 = ev9 20 by rw [o10, va_up_ne _ _ (by decide)]).trans t9_20
  have t10_18 := (show ev10 18 = ev9 18 by rw [o10, va_up_ne _ _ (by decide)]).trans t9_18
  have t10_19 := (show ev10 19 = ev9 19 by rw [o10, va_up_ne _ _ (by decide)]).trans t9_19
  refine lv_aload_n hx hb d_Cv_step_165 rfl (lv_at hl 0 rfl) ?_
  refine wv_getf hx hb h 18 (by decide) (fs := [.ref (ad 19), .ref (ad 21), .ref (ad 22), .ref (ad 23), .ref (ad 24), .ref (ad 25), .ref (ad 26), .ref (ad 27), .ref (ad 28), .ref (ad 29), .ref (ad 30), .ref (ad 31), .ref (ad 32), .ref (ad 33)]) t10_18 hts (fun w hw => List.mem_cons_of_mem _ (fW_Cv w hw)) hown (ci := 0) (C := "NonceBox$Curve") (T := fT_Cv) (N := 14) rfl 0 (by decide) (hts _ (List.mem_cons_of_mem _ kf_Cv_16)) rfl (v := .ref (ad 19)) rfl d_Cv_step_166 ?_
  refine lv_aload_n hx hb d_Cv_step_169 rfl (lv_at hl 3 rfl) ?_
  refine lv_aload_n hx hb d_Cv_step_170 rfl (lv_at hl 3 rfl) ?_
  refine lv_aload_n hx hb d_Cv_step_171 rfl (lv_at hl 3 rfl) ?_
  refine wv_V (As := [.ref (ad 22), .ref (ad 22), .ref (ad 22)]) (rest := []) (k := 3) ⟨hx, hb, hml, hown, hts⟩ h 19 (by decide) (C := "NonceBox$Field") t10_19 rfl (m_Fd_times l G A ad ev10 19 20 10 21 19 608 (by decide) t10_19 (by decide) (by decide) 22 22 22 (pl (stG Ra Rb Rc Rd) (stH Ra Rb Rc Rd)) (pl (stG Ra Rb Rc Rd) (stH Ra Rb Rc Rd)) (pl (stG Ra Rb Rc Rd) (stH Ra Rb Rc Rd)) (wdC (mi Ra Rb) (mi Ra Rb) 10) (by decide) (by decide) (by decide) (by decide) t10_22 t10_22 t10_22 t10_20 (by decide) (by decide) (by decide) (by decide) (by decide)) kc_Fd_times kl_Cv_82 km_Fd_times kv_Fd_times ki_Fd (by decide +kernel) ⟨rfl, rfl, Nat.le_of_ble_eq_true rfl, Nat.le_of_ble_eq_true rfl⟩ hl.1 rfl rfl (Nat.le_of_ble_eq_true rfl) ⟨Nat.le_refl _, Nat.le_refl _⟩ d_Cv_step_172 ?_
  intro ov ev11 H locs hp h
  rw [hp.1]
  refine W.eq (g2 := F0 m 175 ls []) rfl ?_
  have o11 : ev11 = (va_up (va_up ev10 20 (eJ G 20 (wdC (pl (stG Ra Rb Rc Rd) (stH Ra Rb Rc Rd)) (pl (stG Ra Rb Rc Rd) (stH Ra Rb Rc Rd)) 10))) 22 (eJ G 10 (stC Ra Rb Rc Rd))) := hp.2
  have t11_20 : ev11 20 = eJ G 20 (wdC (pl (stG Ra Rb Rc Rd) (stH Ra Rb Rc Rd)) (pl (stG Ra Rb Rc Rd) (stH Ra Rb Rc Rd)) 10) := by rw [o11, va_up_ne _ _ (by decide), va_up_self]
  have t11_22 : ev11 22 = eJ G 10 (stC Ra Rb Rc Rd) := by rw [o11, va_up_self]
  have t11_24 := (show ev11 24 = ev10 24 by rw [o11, va_up_ne _ _ (by decide), va_up_ne _ _ (by decide)]).trans t10_24
  have t11_25 := (show ev11 25 = ev10 25 by rw [o11, va_up_ne _ _ (by decide), va_up_ne _ _ (by decide)]).trans t10_25
  have t11_23 := (show ev11 23 = ev10 23 by rw [o11, va_up_ne _ _ (by decide), va_up_ne _ _ (by decide)]).trans t10_23
  have t11_26 := (show ev11 26 = ev10 26 by rw [o11, va_up_ne _ _ (by decide), va_up_ne _ _ (by decide)]).trans t10_26
  have t11_27 := (show ev11 27 = ev10 27 by rw [o11, va_up_ne _ _ (by decide), va_up_ne _ _ (by decide)]).trans t10_27
  have t11_28 := (show ev11 28 = ev10 28 by rw [o11, va_up_ne _ _ (by decide), va_up_ne _ _ (by decide)]).trans t10_28
  have t11_29 := (show ev11 29 = ev10 29 by rw [o11, va_up_ne _ _ (by decide), va_up_ne _ _ (by decide)]).trans t10_29
  have t11_30 := (show ev11 30 = ev10 30 by rw [o11, va_up_ne _ _ (by decide), va_up_ne _ _ (by decide)]).trans t10_30
  have t11_31 := (show ev11 31 = ev10 31 by rw [o11, va_up_ne _ _ (by decide), va_up_ne _ _ (by decide)]).trans t10_31
  have t11_32 := (show ev11 32 = ev10 32 by rw [o11, va_up_ne _ _ (by decide), va_up_ne _ _ (by decide)]).trans t10_32
  have t11_33 := (show ev11 33 = ev10 33 by rw [o11, va_up_ne _ _ (by decide), va_up_ne _ _ (by decide)]).trans t10_33
  have t11_18 := (show ev11 18 = ev10 18 by rw [o11, va_up_ne _ _ (by decide), va_up_ne _ _ (by decide)]).trans t10_18
  have t11_19 := (show ev11 19 = ev10 19 by rw [o11, va_up_ne _ _ (by decide), va_up_ne _ _ (by decide)]).trans t10_19
  refine lv_aload_n hx hb d_Cv_step_175 rfl (lv_at hl 0 rfl) ?_
  refine wv_getf hx hb h 18 (by decide) (fs := [.ref (ad 19), .ref (ad 21), .ref (ad 22), .ref (ad 23), .ref (ad 24), .ref (ad 25), .ref (ad 26), .ref (ad 27), .ref (ad 28), .ref (ad 29), .ref (ad 30), .ref (ad 31), .ref (ad 32), .ref (ad 33)]) t11_18 hts (fun w hw => List.mem_cons_of_mem _ (fW_Cv w hw)) hown (ci := 0) (C := "NonceBox$Curve") (T := fT_Cv) (N := 14) rfl 0 (by decide) (hts _ (List.mem_cons_of_mem _ kf_Cv_16)) rfl (v := .ref (ad 19)) rfl d_Cv_step_176 ?_
  refine lv_aload_n hx hb d_Cv_step_179 rfl (lv_at hl 0 rfl) ?_
  refine wv_getf hx hb h 18 (by decide) (fs := [.ref (ad 19), .ref (ad 21), .ref (ad 22), .ref (ad 23), .ref (ad 24), .ref (ad 25), .ref (ad 26), .ref (ad 27), .ref (ad 28), .ref (ad 29), .ref (ad 30), .ref (ad 31), .ref (ad 32), .ref (ad 33)]) t11_18 hts (fun w hw => List.mem_cons_of_mem _ (fW_Cv w hw)) hown (ci := 0) (C := "NonceBox$Curve") (T := fT_Cv) (N := 14) rfl 9 (by decide) (hts _ (List.mem_cons_of_mem _ kf_Cv_52)) rfl (v := .ref (ad 29)) rfl d_Cv_step_180 ?_
  refine lv_aload_n hx hb d_Cv_step_183 rfl (lv_at hl 0 rfl) ?_
  refine wv_getf hx hb h 18 (by decide) (fs := [.ref (ad 19), .ref (ad 21), .ref (ad 22), .ref (ad 23), .ref (ad 24), .ref (ad 25), .ref (ad 26), .ref (ad 27), .ref (ad 28), .ref (ad 29), .ref (ad 30), .ref (ad 31), .ref (ad 32), .ref (ad 33)]) t11_18 hts (fun w hw => List.mem_cons_of_mem _ (fW_Cv w hw)) hown (ci := 0) (C := "NonceBox$Curve") (T := fT_Cv) (N := 14) rfl 10 (by decide) (hts _ (List.mem_cons_of_mem _ kf_Cv_55)) rfl (v := .ref (ad 30)) rfl d_Cv_step_184 ?_
  refine lv_aload hx hb d_Cv_step_187 (lv_at hl 4 rfl) ?_
  refine wv_V (As := [.ref (ad 29), .ref (ad 30), .ref (ad 23)]) (rest := []) (k := 3) ⟨hx, hb, hml, hown, hts⟩ h 19 (by decide) (C := "NonceBox$Field") t11_19 rfl (m_Fd_minus l G A ad ev11 19 20 10 21 19 608 (by decide) t11_19 (by decide) (by decide) 29 30 23 (stG Ra Rb Rc Rd) (stH Ra Rb Rc Rd) Rd (by decide) (by decide) (by decide) t11_29 t11_30 t11_23 (by decide)) kc_Fd_minus kl_Cv_114 km_Fd_minus kv_Fd_minus ki_Fd (by decide +kernel) ⟨rfl, rfl, Nat.le_of_ble_eq_true rfl, Nat.le_of_ble_eq_true rfl⟩ hl.1 rfl rfl (Nat.le_of_ble_eq_true rfl) ⟨Nat.le_refl _, Nat.le_refl _⟩ d_Cv_step_189 ?_
  intro ov ev12 H locs hp h
  rw [hp.1]
  refine W.eq (g2 := F0 m 192 ls []) rfl ?_
  have o12 : ev12 = (va_up ev11 23 (eJ G 10 (mi (stG Ra Rb Rc Rd) (stH Ra Rb Rc Rd)))) := hp.2
  have t12_23 : ev12 23 = eJ G 10 (mi (stG Ra Rb Rc Rd) (stH Ra Rb Rc Rd)) := by rw [o12, va_up_self]
  have t12_24 := (show ev12 24 = ev11 24 by rw [o12, va_up_ne _ _ (by decide)]).trans t11_24
  have t12_25 := (show ev12 25 = ev11 25 by rw [o12, va_up_ne _ _ (by decide)]).trans t11_25
  have t12_22 := (show ev12 22 = ev11 22 by rw [o12, va_up_ne _ _ (by decide)]).trans t11_22
  have t12_26 := (show ev12 26 = ev11 26 by rw [o12, va_up_ne _ _ (by decide)]).trans t11_26
  have t12_27 := (show ev12 27 = ev11 27 by rw [o12, va_up_ne _ _ (by decide)]).trans t11_27
  have t12_28 := (show ev12 28 = ev11 28 by rw [o12, va_up_ne _ _ (by decide)]).trans t11_28
  have t12_29 := (show ev12 29 = ev11 29 by rw [o12, va_up_ne _ _ (by decide)]).trans t11_29
  have t12_30 := (show ev12 30 = ev11 30 by rw [o12, va_up_ne _ _ (by decide)]).trans t11_30
  have t12_31 := (show ev12 31 = ev11 31 by rw [o12, va_up_ne _ _ (by decide)]).trans t11_31
  have t12_32 := (show ev12 32 = ev11 32 by rw [o12, va_up_ne _ _ (by decide)]).trans t11_32
  have t12_33 := (show ev12 33 = ev11 33 by rw [o12, va_up_ne _ _ (by decide)]).trans t11_33
  have t12_20 := (show ev12 20 = ev11 20 by rw [o12, va_up_ne _ _ (by decide)]).trans t11_20
  have t12_18 := (show ev12 18 = ev11 18 by rw [o12, va_up_ne _ _ (by decide)]).trans t11_18
  have t12_19 := (show ev12 19 = ev11 19 by rw [o12, va_up_ne _ _ (by decide)]).trans t11_19
  refine lv_aload_n hx hb d_Cv_step_192 rfl (lv_at hl 0 rfl) ?_
  refine wv_getf hx hb h 18 (by decide) (fs := [.ref (ad 19), .ref (ad 21), .ref (ad 22), .ref (ad 23), .ref (ad 24), .ref (ad 25), .ref (ad 26), .ref (ad 27), .ref (ad 28), .ref (ad 29), .ref (ad 30), .ref (ad 31), .ref (ad 32), .ref (ad 33)]) t12_18 hts (fun w hw => List.mem_cons_of_mem _ (fW_Cv w hw)) hown (ci := 0) (C := "NonceBox$Curve") (T := fT_Cv) (N := 14) rfl 0 (by decide) (hts _ (List.mem_cons_of_mem _ kf_Cv_16)) rfl (v := .ref (ad 19)) rfl d_Cv_step_193 ?_
  refine lv_aload hx hb d_Cv_step_196 (lv_at hl 4 rfl) ?_
  refine lv_aload hx hb d_Cv_step_198 (lv_at hl 4 rfl) ?_
  refine lv_aload hx hb d_Cv_step_200 (lv_at hl 4 rfl) ?_
  refine wv_V (As := [.ref (ad 23), .ref (ad 23), .ref (ad 23)]) (rest := []) (k := 3) ⟨hx, hb, hml, hown, hts⟩ h 19 (by decide) (C := "NonceBox$Field") t12_19 rfl (m_Fd_times l G A ad ev12 19 20 10 21 19 608 (by decide) t12_19 (by decide) (by decide) 23 23 23 (mi (stG Ra Rb Rc Rd) (stH Ra Rb Rc Rd)) (mi (stG Ra Rb Rc Rd) (stH Ra Rb Rc Rd)) (mi (stG Ra Rb Rc Rd) (stH Ra Rb Rc Rd)) (wdC (pl (stG Ra Rb Rc Rd) (stH Ra Rb Rc Rd)) (pl (stG Ra Rb Rc Rd) (stH Ra Rb Rc Rd)) 10) (by decide) (by decide) (by decide) (by decide) t12_23 t12_23 t12_23 t12_20 (by decide) (by decide) (by decide) (by decide) (by decide)) kc_Fd_times kl_Cv_82 km_Fd_times kv_Fd_times ki_Fd (by decide +kernel) ⟨rfl, rfl, Nat.le_of_ble_eq_true rfl, Nat.le_of_ble_eq_true rfl⟩ hl.1 rfl rfl (Nat.le_of_ble_eq_true rfl) ⟨Nat.le_refl _, Nat.le_refl _⟩ d_Cv_step_202 ?_
  intro ov ev13 H locs hp h
  rw [hp.1]
  refine W.eq (g2 := F0 m 205 ls []) rfl ?_
  have o13 : ev13 = (va_up (va_up ev12 20 (eJ G 20 (wdC (mi (stG Ra Rb Rc Rd) (stH Ra Rb Rc Rd)) (mi (stG Ra Rb Rc Rd) (stH Ra Rb Rc Rd)) 10))) 23 (eJ G 10 (tm (mi (stG Ra Rb Rc Rd) (stH Ra Rb Rc Rd)) (mi (stG Ra Rb Rc Rd) (stH Ra Rb Rc Rd))))) := hp.2
  have t13_20 : ev13 20 = eJ G 20 (wdC (mi (stG Ra Rb Rc Rd) (stH Ra Rb Rc Rd)) (mi (stG Ra Rb Rc Rd) (stH Ra Rb Rc Rd)) 10) := by rw [o13, va_up_ne _ _ (by decide), va_up_self]
  have t13_23 : ev13 23 = eJ G 10 (tm (mi (stG Ra Rb Rc Rd) (stH Ra Rb Rc Rd)) (mi (stG Ra Rb Rc Rd) (stH Ra Rb Rc Rd))) := by rw [o13, va_up_self]
  have t13_24 := (show ev13 24 = ev12 24 by rw [o13, va_up_ne _ _ (by decide), va_up_ne _ _ (by decide)]).trans t12_24
  have t13_25 := (show ev13 25 = ev12 25 by rw [o13, va_up_ne _ _ (by decide), va_up_ne _ _ (by decide)]).trans t12_25
  have t13_22 := (show ev13 22 = ev12 22 by rw [o13, va_up_ne _ _ (by decide), va_up_ne _ _ (by decide)]).trans t12_22
  have t13_26 := (show ev13 26 = ev12 26 by rw [o13, va_up_ne _ _ (by decide), va_up_ne _ _ (by decide)]).trans t12_26
  have t13_27 := (show ev13 27 = ev12 27 by rw [o13, va_up_ne _ _ (by decide), va_up_ne _ _ (by decide)]).trans t12_27
  have t13_28 := (show ev13 28 = ev12 28 by rw [o13, va_up_ne _ _ (by decide), va_up_ne _ _ (by decide)]).trans t12_28
  have t13_29 := (show ev13 29 = ev12 29 by rw [o13, va_up_ne _ _ (by decide), va_up_ne _ _ (by decide)]).trans t12_29
  have t13_30 := (show ev13 30 = ev12 30 by rw [o13, va_up_ne _ _ (by decide), va_up_ne _ _ (by decide)]).trans t12_30
  have t13_31 := (show ev13 31 = ev12 31 by rw [o13, va_up_ne _ _ (by decide), va_up_ne _ _ (by decide)]).trans t12_31
  have t13_32 := (show ev13 32 = ev12 32 by rw [o13, va_up_ne _ _ (by decide), va_up_ne _ _ (by decide)]).trans t12_32
  have t13_33 := (show ev13 33 = ev12 33 by rw [o13, va_up_ne _ _ (by decide), va_up_ne _ _ (by decide)]).trans t12_33
  have t13_18 := (show ev13 18 = ev12 18 by rw [o13, va_up_ne _ _ (by decide), va_up_ne _ _ (by decide)]).trans t12_18
  have t13_19 := (show ev13 19 = ev12 19 by rw [o13, va_up_ne _ _ (by decide), va_up_ne _ _ (by decide)]).trans t12_19
  refine lv_aload_n hx hb d_Cv_step_205 rfl (lv_at hl 0 rfl) ?_
  refine wv_getf hx hb h 18 (by decide) (fs := [.ref (ad 19), .ref (ad 21), .ref (ad 22), .ref (ad 23), .ref (ad 24), .ref (ad 25), .ref (ad 26), .ref (ad 27), .ref (ad 28), .ref (ad 29), .ref (ad 30), .ref (ad 31), .ref (ad 32), .ref (ad 33)]) t13_18 hts (fun w hw => List.mem_cons_of_mem _ (fW_Cv w hw)) hown (ci := 0) (C := "NonceBox$Curve") (T := fT_Cv) (N := 14) rfl 0 (by decide) (hts _ (List.mem_cons_of_mem _ kf_Cv_16)) rfl (v := .ref (ad 19)) rfl d_Cv_step_206 ?_
  refine lv_aload_n hx hb d_Cv_step_209 rfl (lv_at hl 0 rfl) ?_
  refine wv_getf hx hb h 18 (by decide) (fs := [.ref (ad 19), .ref (ad 21), .ref (ad 22), .ref (ad 23), .ref (ad 24), .ref (ad 25), .ref (ad 26), .ref (ad 27), .ref (ad 28), .ref (ad 29), .ref (ad 30), .ref (ad 31), .ref (ad 32), .ref (ad 33)]) t13_18 hts (fun w hw => List.mem_cons_of_mem _ (fW_Cv w hw)) hown (ci := 0) (C := "NonceBox$Curve") (T := fT_Cv) (N := 14) rfl 6 (by decide) (hts _ (List.mem_cons_of_mem _ kf_Cv_43)) rfl (v := .ref (ad 26)) rfl d_Cv_step_210 ?_
  refine lv_aload hx hb d_Cv_step_213 (lv_at hl 4 rfl) ?_
  refine lv_aload hx hb d_Cv_step_215 (lv_at hl 4 rfl) ?_
  refine wv_V (As := [.ref (ad 26), .ref (ad 23), .ref (ad 23)]) (rest := []) (k := 3) ⟨hx, hb, hml, hown, hts⟩ h 19 (by decide) (C := "NonceBox$Field") t13_19 rfl (m_Fd_times l G A ad ev13 19 20 10 21 19 608 (by decide) t13_19 (by decide) (by decide) 26 23 23 U (tm (mi (stG Ra Rb Rc Rd) (stH Ra Rb Rc Rd)) (mi (stG Ra Rb Rc Rd) (stH Ra Rb Rc Rd))) (tm (mi (stG Ra Rb Rc Rd) (stH Ra Rb Rc Rd)) (mi (stG Ra Rb Rc Rd) (stH Ra Rb Rc Rd))) (wdC (mi (stG Ra Rb Rc Rd) (stH Ra Rb Rc Rd)) (mi (stG Ra Rb Rc Rd) (stH Ra Rb Rc Rd)) 10) (by decide) (by decide) (by decide) (by decide) t13_26 t13_23 t13_23 t13_20 (by decide) (by decide) (by decide) (by decide) (by decide)) kc_Fd_times kl_Cv_82 km_Fd_times kv_Fd_times ki_Fd (by decide +kernel) ⟨rfl, rfl, Nat.le_of_ble_eq_true rfl, Nat.le_of_ble_eq_true rfl⟩ hl.1 rfl rfl (Nat.le_of_ble_eq_true rfl) ⟨Nat.le_refl _, Nat.le_refl _⟩ d_Cv_step_217 ?_
  intro ov ev14 H locs hp h
  rw [hp.1]
  refine W.eq (g2 := F0 m 220 ls []) rfl ?_
  have o14 : ev14 = (va_up (va_up ev13 20 (eJ G 20 (wdC U (tm (mi (stG Ra Rb Rc Rd) (stH Ra Rb Rc Rd)) (mi (stG Ra Rb Rc Rd) (stH Ra Rb Rc Rd))) 10))) 23 (eJ G 10 (stD U Ra Rb Rc Rd))) := hp.2
  have t14_20 : ev14 20 = eJ G 20 (wdC U (tm (mi (stG Ra Rb Rc Rd) (stH Ra Rb Rc Rd)) (mi (stG Ra Rb Rc Rd) (stH Ra Rb Rc Rd))) 10) := by rw [o14, va_up_ne _ _ (by decide), va_up_self]
  have t14_23 : ev14 23 = eJ G 10 (stD U Ra Rb Rc Rd) := by rw [o14, va_up_self]
  have t14_24 := (show ev14 24 = ev13 24 by rw [o14, va_up_ne _ _ (by decide), va_up_ne _ _ (by decide)]).trans t13_24
  have t14_25 := (show ev14 25 = ev13 25 by rw [o14, va_up_ne _ _ (by decide), va_up_ne _ _ (by decide)]).trans t13_25
  have t14_22 := (show ev14 22 = ev13 22 by rw [o14, va_up_ne _ _ (by decide), va_up_ne _ _ (by decide)]).trans t13_22
  have t14_26 := (show ev14 26 = ev13 26 by rw [o14, va_up_ne _ _ (by decide), va_up_ne _ _ (by decide)]).trans t13_26
  have t14_27 := (show ev14 27 = ev13 27 by rw [o14, va_up_ne _ _ (by decide), va_up_ne _ _ (by decide)]).trans t13_27
  have t14_28 := (show ev14 28 = ev13 28 by rw [o14, va_up_ne _ _ (by decide), va_up_ne _ _ (by decide)]).trans t13_28
  have t14_29 := (show ev14 29 = ev13 29 by rw [o14, va_up_ne _ _ (by decide), va_up_ne _ _ (by decide)]).trans t13_29
  have t14_30 := (show ev14 30 = ev13 30 by rw [o14, va_up_ne _ _ (by decide), va_up_ne _ _ (by decide)]).trans t13_30
  have t14_31 := (show ev14 31 = ev13 31 by rw [o14, va_up_ne _ _ (by decide), va_up_ne _ _ (by decide)]).trans t13_31
  have t14_32 := (show ev14 32 = ev13 32 by rw [o14, va_up_ne _ _ (by decide), va_up_ne _ _ (by decide)]).trans t13_32
  have t14_33 := (show ev14 33 = ev13 33 by rw [o14, va_up_ne _ _ (by decide), va_up_ne _ _ (by decide)]).trans t13_33
  have t14_18 := (show ev14 18 = ev13 18 by rw [o14, va_up_ne _ _ (by decide), va_up_ne _ _ (by decide)]).trans t13_18
  have t14_19 := (show ev14 19 = ev13 19 by rw [o14, va_up_ne _ _ (by decide), va_up_ne _ _ (by decide)]).trans t13_19
  refine lv_aload_n hx hb d_Cv_step_220 rfl (lv_at hl 0 rfl) ?_
  refine wv_getf hx hb h 18 (by decide) (fs := [.ref (ad 19), .ref (ad 21), .ref (ad 22), .ref (ad 23), .ref (ad 24), .ref (ad 25), .ref (ad 26), .ref (ad 27), .ref (ad 28), .ref (ad 29), .ref (ad 30), .ref (ad 31), .ref (ad 32), .ref (ad 33)]) t14_18 hts (fun w hw => List.mem_cons_of_mem _ (fW_Cv w hw)) hown (ci := 0) (C := "NonceBox$Curve") (T := fT_Cv) (N := 14) rfl 0 (by decide) (hts _ (List.mem_cons_of_mem _ kf_Cv_16)) rfl (v := .ref (ad 19)) rfl d_Cv_step_221 ?_
  refine lv_aload_n hx hb d_Cv_step_224 rfl (lv_at hl 0 rfl) ?_
  refine wv_getf hx hb h 18 (by decide) (fs := [.ref (ad 19), .ref (ad 21), .ref (ad 22), .ref (ad 23), .ref (ad 24), .ref (ad 25), .ref (ad 26), .ref (ad 27), .ref (ad 28), .ref (ad 29), .ref (ad 30), .ref (ad 31), .ref (ad 32), .ref (ad 33)]) t14_18 hts (fun w hw => List.mem_cons_of_mem _ (fW_Cv w hw)) hown (ci := 0) (C := "NonceBox$Curve") (T := fT_Cv) (N := 14) rfl 11 (by decide) (hts _ (List.mem_cons_of_mem _ kf_Cv_58)) rfl (v := .ref (ad 31)) rfl d_Cv_step_225 ?_
  refine lv_aload_n hx hb d_Cv_step_228 rfl (lv_at hl 0 rfl) ?_
  refine wv_getf hx hb h 18 (by decide) (fs := [.ref (ad 19), .ref (ad 21), .ref (ad 22), .ref (ad 23), .ref (ad 24), .ref (ad 25), .ref (ad 26), .ref (ad 27), .ref (ad 28), .ref (ad 29), .ref (ad 30), .ref (ad 31), .ref (ad 32), .ref (ad 33)]) t14_18 hts (fun w hw => List.mem_cons_of_mem _ (fW_Cv w hw)) hown (ci := 0) (C := "NonceBox$Curve") (T := fT_Cv) (N := 14) rfl 12 (by decide) (hts _ (List.mem_cons_of_mem _ kf_Cv_61)) rfl (v := .ref (ad 32)) rfl d_Cv_step_229 ?_
  refine lv_aload_n hx hb d_Cv_step_232 rfl (lv_at hl 1 rfl) ?_
  refine wv_V (As := [.ref (ad 31), .ref (ad 32), .ref (ad 24)]) (rest := []) (k := 3) ⟨hx, hb, hml, hown, hts⟩ h 19 (by decide) (C := "NonceBox$Field") t14_19 rfl (m_Fd_times l G A ad ev14 19 20 10 21 19 608 (by decide) t14_19 (by decide) (by decide) 31 32 24 (stQ Ra Rb) (stR Ra Rb) Ra (wdC U (tm (mi (stG Ra Rb Rc Rd) (stH Ra Rb Rc Rd)) (mi (stG Ra Rb Rc Rd) (stH Ra Rb Rc Rd))) 10) (by decide) (by decide) (by decide) (by decide) t14_31 t14_32 t14_24 t14_20 (by decide) (by decide) (by decide) (by decide) (by decide)) kc_Fd_times kl_Cv_82 km_Fd_times kv_Fd_times ki_Fd (by decide +kernel) ⟨rfl, rfl, Nat.le_of_ble_eq_true rfl, Nat.le_of_ble_eq_true rfl⟩ hl.1 rfl rfl (Nat.le_of_ble_eq_true rfl) ⟨Nat.le_refl _, Nat.le_refl _⟩ d_Cv_step_233 ?_
  intro ov ev15 H locs hp h
  rw [hp.1]
  refine W.eq (g2 := F0 m 236 ls []) rfl ?_
  have o15 : ev15 = (va_up (va_up ev14 20 (eJ G 20 (wdC (stQ Ra Rb) (stR Ra Rb) 10))) 24 (eJ G 10 (stA Ra Rb))) := hp.2
  have t15_20 : ev15 20 = eJ G 20 (wdC (stQ Ra Rb) (stR Ra Rb) 10) := by rw [o15, va_up_ne _ _ (by decide), va_up_self]
  have t15_24 : ev15 24 = eJ G 10 (stA Ra Rb) := by rw [o15, va_up_self]
  have t15_25 := (show ev15 25 = ev14 25 by rw [o15, va_up_ne _ _ (by decide), va_up_ne _ _ (by decide)]).trans t14_25
  have t15_22 := (show ev15 22 = ev14 22 by rw [o15, va_up_ne _ _ (by decide), va_up_ne _ _ (by decide)]).trans t14_22
  have t15_23 := (show ev15 23 = ev14 23 by rw [o15, va_up_ne _ _ (by decide), va_up_ne _ _ (by decide)]).trans t14_23
  have t15_26 := (show ev15 26 = ev14 26 by rw [o15, va_up_ne _ _ (by decide), va_up_ne _ _ (by decide)]).trans t14_26
  have t15_27 := (show ev15 27 = ev14 27 by rw [o15, va_up_ne _ _ (by decide), va_up_ne _ _ (by decide)]).trans t14_27
  have t15_28 := (show ev15 28 = ev14 28 by rw [o15, va_up_ne _ _ (by decide), va_up_ne _ _ (by decide)]).trans t14_28
  have t15_29 := (show ev15 29 = ev14 29 by rw [o15, va_up_ne _ _ (by decide), va_up_ne _ _ (by decide)]).trans t14_29
  have t15_30 := (show ev15 30 = ev14 30 by rw [o15, va_up_ne _ _ (by decide), va_up_ne _ _ (by decide)]).trans t14_30
  have t15_31 := (show ev15 31 = ev14 31 by rw [o15, va_up_ne _ _ (by decide), va_up_ne _ _ (by decide)]).trans t14_31
  have t15_32 := (show ev15 32 = ev14 32 by rw [o15, va_up_ne _ _ (by decide), va_up_ne _ _ (by decide)]).trans t14_32
  have t15_33 := (show ev15 33 = ev14 33 by rw [o15, va_up_ne _ _ (by decide), va_up_ne _ _ (by decide)]).trans t14_33
  have t15_18 := (show ev15 18 = ev14 18 by rw [o15, va_up_ne _ _ (by decide), va_up_ne _ _ (by decide)]).trans t14_18
  have t15_19 := (show ev15 19 = ev14 19 by rw [o15, va_up_ne _ _ (by decide), va_up_ne _ _ (by decide)]).trans t14_19
  refine lv_aload_n hx hb d_Cv_step_236 rfl (lv_at hl 0 rfl) ?_
  refine wv_getf hx hb h 18 (by decide) (fs := [.ref (ad 19), .ref (ad 21), .ref (ad 22), .ref (ad 23), .ref (ad 24), .ref (ad 25), .ref (ad 26), .ref (ad 27), .ref (ad 28), .ref (ad 29), .ref (ad 30), .ref (ad 31), .ref (ad 32), .ref (ad 33)]) t15_18 hts (fun w hw => List.mem_cons_of_mem _ (fW_Cv w hw)) hown (ci := 0) (C := "NonceBox$Curve") (T := fT_Cv) (N := 14) rfl 0 (by decide) (hts _ (List.mem_cons_of_mem _ kf_Cv_16)) rfl (v := .ref (ad 19)) rfl d_Cv_step_237 ?_
  refine lv_aload_n hx hb d_Cv_step_240 rfl (lv_at hl 0 rfl) ?_
  refine wv_getf hx hb h 18 (by decide) (fs := [.ref (ad 19), .ref (ad 21), .ref (ad 22), .ref (ad 23), .ref (ad 24), .ref (ad 25), .ref (ad 26), .ref (ad 27), .ref (ad 28), .ref (ad 29), .ref (ad 30), .ref (ad 31), .ref (ad 32), .ref (ad 33)]) t15_18 hts (fun w hw => List.mem_cons_of_mem _ (fW_Cv w hw)) hown (ci := 0) (C := "NonceBox$Curve") (T := fT_Cv) (N := 14) rfl 13 (by decide) (hts _ (List.mem_cons_of_mem _ kf_Cv_64)) rfl (v := .ref (ad 33)) rfl d_Cv_step_241 ?_
  refine lv_ldc (v := 121665) hx hb hown (hts _ (List.mem_cons_of_mem _ ko_Cv_117)) d_Cv_step_244 ?_
  refine lv_aload_n hx hb d_Cv_step_246 rfl (lv_at hl 2 rfl) ?_
  refine wv_V (As := [.ref (ad 33), .int (121665), .ref (ad 25)]) (rest := []) (k := 3) ⟨hx, hb, hml, hown, hts⟩ h 19 (by decide) (C := "NonceBox$Field") t15_19 rfl (m_Fd_scale l G A ad ev15 19 20 10 21 19 608 (by decide) t15_19 (by decide) (by decide) 33 25 121665 (stT Ra Rb) Rb (by decide) (by decide) t15_33 t15_25 (by decide)) kc_Fd_scale kl_Cv_118 km_Fd_scale kv_Fd_scale ki_Fd (by decide +kernel) ⟨rfl, rfl, Nat.le_of_ble_eq_true rfl, Nat.le_of_ble_eq_true rfl⟩ hl.1 rfl rfl (Nat.le_of_ble_eq_true rfl) ⟨Nat.le_refl _, Nat.le_refl _⟩ d_Cv_step_247 ?_
  intro ov ev16 H locs hp h
  rw [hp.1]
  refine W.eq (g2 := F0 m 250 ls []) rfl ?_
  have o16 : ev16 = (va_up ev15 25 (eJ G 10 (sc (stT Ra Rb)))) := hp.2
  have t16_25 : ev16 25 = eJ G 10 (sc (stT Ra Rb)) := by rw [o16, va_up_self]
  have t16_24 := (show ev16 24 = ev15 24 by rw [o16, va_up_ne _ _ (by decide)]).trans t15_24
  have t16_22 := (show ev16 22 = ev15 22 by rw [o16, va_up_ne _ _ (by decide)]).trans t15_22
  have t16_23 := (show ev16 23 = ev15 23 by rw [o16, va_up_ne _ _ (by decide)]).trans t15_23
  have t16_26 := (show ev16 26 = ev15 26 by rw [o16, va_up_ne _ _ (by decide)]).trans t15_26
  have t16_27 := (show ev16 27 = ev15 27 by rw [o16, va_up_ne _ _ (by decide)]).trans t15_27
  have t16_28 := (show ev16 28 = ev15 28 by rw [o16, va_up_ne _ _ (by decide)]).trans t15_28
  have t16_29 := (show ev16 29 = ev15 29 by rw [o16, va_up_ne _ _ (by decide)]).trans t15_29
  have t16_30 := (show ev16 30 = ev15 30 by rw [o16, va_up_ne _ _ (by decide)]).trans t15_30
  have t16_31 := (show ev16 31 = ev15 31 by rw [o16, va_up_ne _ _ (by decide)]).trans t15_31
  have t16_32 := (show ev16 32 = ev15 32 by rw [o16, va_up_ne _ _ (by decide)]).trans t15_32
  have t16_33 := (show ev16 33 = ev15 33 by rw [o16, va_up_ne _ _ (by decide)]).trans t15_33
  have t16_20 := (show ev16 20 = ev15 20 by rw [o16, va_up_ne _ _ (by decide)]).trans t15_20
  have t16_18 := (show ev16 18 = ev15 18 by rw [o16, va_up_ne _ _ (by decide)]).trans t15_18
  have t16_19 := (show ev16 19 = ev15 19 by rw [o16, va_up_ne _ _ (by decide)]).trans t15_19
  refine lv_aload_n hx hb d_Cv_step_250 rfl (lv_at hl 0 rfl) ?_
  refine wv_getf hx hb h 18 (by decide) (fs := [.ref (ad 19), .ref (ad 21), .ref (ad 22), .ref (ad 23), .ref (ad 24), .ref (ad 25), .ref (ad 26), .ref (ad 27), .ref (ad 28), .ref (ad 29), .ref (ad 30), .ref (ad 31), .ref (ad 32), .ref (ad 33)]) t16_18 hts (fun w hw => List.mem_cons_of_mem _ (fW_Cv w hw)) hown (ci := 0) (C := "NonceBox$Curve") (T := fT_Cv) (N := 14) rfl 0 (by decide) (hts _ (List.mem_cons_of_mem _ kf_Cv_16)) rfl (v := .ref (ad 19)) rfl d_Cv_step_251 ?_
  refine lv_aload_n hx hb d_Cv_step_254 rfl (lv_at hl 0 rfl) ?_
  refine wv_getf hx hb h 18 (by decide) (fs := [.ref (ad 19), .ref (ad 21), .ref (ad 22), .ref (ad 23), .ref (ad 24), .ref (ad 25), .ref (ad 26), .ref (ad 27), .ref (ad 28), .ref (ad 29), .ref (ad 30), .ref (ad 31), .ref (ad 32), .ref (ad 33)]) t16_18 hts (fun w hw => List.mem_cons_of_mem _ (fW_Cv w hw)) hown (ci := 0) (C := "NonceBox$Curve") (T := fT_Cv) (N := 14) rfl 11 (by decide) (hts _ (List.mem_cons_of_mem _ kf_Cv_58)) rfl (v := .ref (ad 31)) rfl d_Cv_step_255 ?_
  refine lv_aload_n hx hb d_Cv_step_258 rfl (lv_at hl 2 rfl) ?_
  refine lv_aload_n hx hb d_Cv_step_259 rfl (lv_at hl 2 rfl) ?_
  refine wv_V (As := [.ref (ad 31), .ref (ad 25), .ref (ad 25)]) (rest := []) (k := 3) ⟨hx, hb, hml, hown, hts⟩ h 19 (by decide) (C := "NonceBox$Field") t16_19 rfl (m_Fd_plus l G A ad ev16 19 20 10 21 19 608 (by decide) t16_19 (by decide) (by decide) 31 25 25 (stQ Ra Rb) (sc (stT Ra Rb)) (sc (stT Ra Rb)) (by decide) (by decide) (by decide) t16_31 t16_25 t16_25 (by decide)) kc_Fd_plus kl_Cv_111 km_Fd_plus kv_Fd_plus ki_Fd (by decide +kernel) ⟨rfl, rfl, Nat.le_of_ble_eq_true rfl, Nat.le_of_ble_eq_true rfl⟩ hl.1 rfl rfl (Nat.le_of_ble_eq_true rfl) ⟨Nat.le_refl _, Nat.le_refl _⟩ d_Cv_step_260 ?_
  intro ov ev17 H locs hp h
  rw [hp.1]
  refine W.eq (g2 := F0 m 263 ls []) rfl ?_
  have o17 : ev17 = (va_up ev16 25 (eJ G 10 (pl (stQ Ra Rb) (sc (stT Ra Rb))))) := hp.2
  have t17_25 : ev17 25 = eJ G 10 (pl (stQ Ra Rb) (sc (stT Ra Rb))) := by rw [o17, va_up_self]
  have t17_24 := (show ev17 24 = ev16 24 by rw [o17, va_up_ne _ _ (by decide)]).trans t16_24
  have t17_22 := (show ev17 22 = ev16 22 by rw [o17, va_up_ne _ _ (by decide)]).trans t16_22
  have t17_23 := (show ev17 23 = ev16 23 by rw [o17, va_up_ne _ _ (by decide)]).trans t16_23
  have t17_26 := (show ev17 26 = ev16 26 by rw [o17, va_up_ne _ _ (by decide)]).trans t16_26
  have t17_27 := (show ev17 27 = ev16 27 by rw [o17, va_up_ne _ _ (by decide)]).trans t16_27
  have t17_28 := (show ev17 28 = ev16 28 by rw [o17, va_up_ne _ _ (by decide)]).trans t16_28
  have t17_29 := (show ev17 29 = ev16 29 by rw [o17, va_up_ne _ _ (by decide)]).trans t16_29
  have t17_30 := (show ev17 30 = ev16 30 by rw [o17, va_up_ne _ _ (by decide)]).trans t16_30
  have t17_31 := (show ev17 31 = ev16 31 by rw [o17, va_up_ne _ _ (by decide)]).trans t16_31
  have t17_32 := (show ev17 32 = ev16 32 by rw [o17, va_up_ne _ _ (by decide)]).trans t16_32
  have t17_33 := (show ev17 33 = ev16 33 by rw [o17, va_up_ne _ _ (by decide)]).trans t16_33
  have t17_20 := (show ev17 20 = ev16 20 by rw [o17, va_up_ne _ _ (by decide)]).trans t16_20
  have t17_18 := (show ev17 18 = ev16 18 by rw [o17, va_up_ne _ _ (by decide)]).trans t16_18
  have t17_19 := (show ev17 19 = ev16 19 by rw [o17, va_up_ne _ _ (by decide)]).trans t16_19
  refine lv_aload_n hx hb d_Cv_step_263 rfl (lv_at hl 0 rfl) ?_
  refine wv_getf hx hb h 18 (by decide) (fs := [.ref (ad 19), .ref (ad 21), .ref (ad 22), .ref (ad 23), .ref (ad 24), .ref (ad 25), .ref (ad 26), .ref (ad 27), .ref (ad 28), .ref (ad 29), .ref (ad 30), .ref (ad 31), .ref (ad 32), .ref (ad 33)]) t17_18 hts (fun w hw => List.mem_cons_of_mem _ (fW_Cv w hw)) hown (ci := 0) (C := "NonceBox$Curve") (T := fT_Cv) (N := 14) rfl 0 (by decide) (hts _ (List.mem_cons_of_mem _ kf_Cv_16)) rfl (v := .ref (ad 19)) rfl d_Cv_step_264 ?_
  refine lv_aload_n hx hb d_Cv_step_267 rfl (lv_at hl 0 rfl) ?_
  refine wv_getf hx hb h 18 (by decide) (fs := [.ref (ad 19), .ref (ad 21), .ref (ad 22), .ref (ad 23), .ref (ad 24), .ref (ad 25), .ref (ad 26), .ref (ad 27), .ref (ad 28), .ref (ad 29), .ref (ad 30), .ref (ad 31), .ref (ad 32), .ref (ad 33)]) t17_18 hts (fun w hw => List.mem_cons_of_mem _ (fW_Cv w hw)) hown (ci := 0) (C := "NonceBox$Curve") (T := fT_Cv) (N := 14) rfl 13 (by decide) (hts _ (List.mem_cons_of_mem _ kf_Cv_64)) rfl (v := .ref (ad 33)) rfl d_Cv_step_268 ?_
  refine lv_aload_n hx hb d_Cv_step_271 rfl (lv_at hl 2 rfl) ?_
  refine lv_aload_n hx hb d_Cv_step_272 rfl (lv_at hl 2 rfl) ?_
  refine wv_V (As := [.ref (ad 33), .ref (ad 25), .ref (ad 25)]) (rest := []) (k := 3) ⟨hx, hb, hml, hown, hts⟩ h 19 (by decide) (C := "NonceBox$Field") t17_19 rfl (m_Fd_times l G A ad ev17 19 20 10 21 19 608 (by decide) t17_19 (by decide) (by decide) 33 25 25 (stT Ra Rb) (pl (stQ Ra Rb) (sc (stT Ra Rb))) (pl (stQ Ra Rb) (sc (stT Ra Rb))) (wdC (stQ Ra Rb) (stR Ra Rb) 10) (by decide) (by decide) (by decide) (by decide) t17_33 t17_25 t17_25 t17_20 (by decide) (by decide) (by decide) (by decide) (by decide)) kc_Fd_times kl_Cv_82 km_Fd_times kv_Fd_times ki_Fd (by decide +kernel) ⟨rfl, rfl, Nat.le_of_ble_eq_true rfl, Nat.le_of_ble_eq_true rfl⟩ hl.1 rfl rfl (Nat.le_of_ble_eq_true rfl) ⟨Nat.le_refl _, Nat.le_refl _⟩ d_Cv_step_273 ?_
  intro ov ev18 H locs hp h
  rw [hp.1]
  refine W.eq (g2 := F0 m 276 ls []) rfl ?_
  have o18 : ev18 = (va_up (va_up ev17 20 (eJ G 20 (wdC (stT Ra Rb) (pl (stQ Ra Rb) (sc (stT Ra Rb))) 10))) 25 (eJ G 10 (stB Ra Rb))) := hp.2
  have t18_20 : ev18 20 = eJ G 20 (wdC (stT Ra Rb) (pl (stQ Ra Rb) (sc (stT Ra Rb))) 10) := by rw [o18, va_up_ne _ _ (by decide), va_up_self]
  have t18_25 : ev18 25 = eJ G 10 (stB Ra Rb) := by rw [o18, va_up_self]
  have t18_24 := (show ev18 24 = ev17 24 by rw [o18, va_up_ne _ _ (by decide), va_up_ne _ _ (by decide)]).trans t17_24
  have t18_22 := (show ev18 22 = ev17 22 by rw [o18, va_up_ne _ _ (by decide), va_up_ne _ _ (by decide)]).trans t17_22
  have t18_23 := (show ev18 23 = ev17 23 by rw [o18, va_up_ne _ _ (by decide), va_up_ne _ _ (by decide)]).trans t17_23
  have t18_26 := (show ev18 26 = ev17 26 by rw [o18, va_up_ne _ _ (by decide), va_up_ne _ _ (by decide)]).trans t17_26
  have t18_27 := (show ev18 27 = ev17 27 by rw [o18, va_up_ne _ _ (by decide), va_up_ne _ _ (by decide)]).trans t17_27
  have t18_28 := (show ev18 28 = ev17 28 by rw [o18, va_up_ne _ _ (by decide), va_up_ne _ _ (by decide)]).trans t17_28
  have t18_29 := (show ev18 29 = ev17 29 by rw [o18, va_up_ne _ _ (by decide), va_up_ne _ _ (by decide)]).trans t17_29
  have t18_30 := (show ev18 30 = ev17 30 by rw [o18, va_up_ne _ _ (by decide), va_up_ne _ _ (by decide)]).trans t17_30
  have t18_31 := (show ev18 31 = ev17 31 by rw [o18, va_up_ne _ _ (by decide), va_up_ne _ _ (by decide)]).trans t17_31
  have t18_32 := (show ev18 32 = ev17 32 by rw [o18, va_up_ne _ _ (by decide), va_up_ne _ _ (by decide)]).trans t17_32
  have t18_33 := (show ev18 33 = ev17 33 by rw [o18, va_up_ne _ _ (by decide), va_up_ne _ _ (by decide)]).trans t17_33
  have t18_18 := (show ev18 18 = ev17 18 by rw [o18, va_up_ne _ _ (by decide), va_up_ne _ _ (by decide)]).trans t17_18
  have t18_19 := (show ev18 19 = ev17 19 by rw [o18, va_up_ne _ _ (by decide), va_up_ne _ _ (by decide)]).trans t17_19
  refine wv_vret hx hb hr hlocks h d_Cv_step_276 ⟨(wdC (stT Ra Rb) (pl (stQ Ra Rb) (sc (stT Ra Rb))) 10), (pl Ra Rb), (mi Ra Rb), (stG Ra Rb Rc Rd), (stH Ra Rb Rc Rd), (stQ Ra Rb), (stR Ra Rb), (stT Ra Rb), rfl, ?_⟩
  funext j
  by_cases c0 : j = 20
  · rw [c0, t18_20, va_up_ne _ _ (by decide), va_up_ne _ _ (by decide), va_up_ne _ _ (by decide), va_up_ne _ _ (by decide), va_up_ne _ _ (by decide), va_up_ne _ _ (by decide), va_up_ne _ _ (by decide), va_up_ne _ _ (by decide), va_up_ne _ _ (by decide), va_up_ne _ _ (by decide), va_up_ne _ _ (by decide), va_up_self]
  by_cases c1 : j = 27
  · rw [c1, t18_27, va_up_ne _ _ (by decide), va_up_ne _ _ (by decide), va_up_ne _ _ (by decide), va_up_ne _ _ (by decide), va_up_ne _ _ (by decide), va_up_ne _ _ (by decide), va_up_ne _ _ (by decide), va_up_ne _ _ (by decide), va_up_ne _ _ (by decide), va_up_ne _ _ (by decide), va_up_self]
  by_cases c2 : j = 28
  · rw [c2, t18_28, va_up_ne _ _ (by decide), va_up_ne _ _ (by decide), va_up_ne _ _ (by decide), va_up_ne _ _ (by decide), va_up_ne _ _ (by decide), va_up_ne _ _ (by decide), va_up_ne _ _ (by decide), va_up_ne _ _ (by decide), va_up_ne _ _ (by decide), va_up_self]
  by_cases c3 : j = 29
  · rw [c3, t18_29, va_up_ne _ _ (by decide), va_up_ne _ _ (by decide), va_up_ne _ _ (by decide), va_up_ne _ _ (by decide), va_up_ne _ _ (by decide), va_up_ne _ _ (by decide), va_up_ne _ _ (by decide), va_up_ne _ _ (by decide), va_up_self]
  by_cases c4 : j = 30
  · rw [c4, t18_30, va_up_ne _ _ (by decide), va_up_ne _ _ (by decide), va_up_ne _ _ (by decide), va_up_ne _ _ (by decide), va_up_ne _ _ (by decide), va_up_ne _ _ (by decide), va_up_ne _ _ (by decide), va_up_self]
  by_cases c5 : j = 31
  · rw [c5, t18_31, va_up_ne _ _ (by decide), va_up_ne _ _ (by decide), va_up_ne _ _ (by decide), va_up_ne _ _ (by decide), va_up_ne _ _ (by decide), va_up_ne _ _ (by decide), va_up_self]
  by_cases c6 : j = 32
  · rw [c6, t18_32, va_up_ne _ _ (by decide), va_up_ne _ _ (by decide), va_up_ne _ _ (by decide), va_up_ne _ _ (by decide), va_up_ne _ _ (by decide), va_up_self]
  by_cases c7 : j = 33
  · rw [c7, t18_33, va_up_ne _ _ (by decide), va_up_ne _ _ (by decide), va_up_ne _ _ (by decide), va_up_ne _ _ (by decide), va_up_self]
  by_cases c8 : j = 24
  · rw [c8, t18_24, va_up_ne _ _ (by decide), va_up_ne _ _ (by decide), va_up_ne _ _ (by decide), va_up_self]
  by_cases c9 : j = 25
  · rw [c9, t18_25, va_up_ne _ _ (by decide), va_up_ne _ _ (by decide), va_up_self]
  by_cases c10 : j = 22
  · rw [c10, t18_22, va_up_ne _ _ (by decide), va_up_self]
  by_cases c11 : j = 23
  · rw [c11, t18_23, va_up_self]
  rw [va_up_ne _ _ c11, va_up_ne _ _ c10, va_up_ne _ _ c9, va_up_ne _ _ c8, va_up_ne _ _ c7, va_up_ne _ _ c6, va_up_ne _ _ c5, va_up_ne _ _ c4, va_up_ne _ _ c3, va_up_ne _ _ c2, va_up_ne _ _ c1, va_up_ne _ _ c0]
  rw [o18, va_up_ne _ _ c9, va_up_ne _ _ c0, o17, va_up_ne _ _ c9, o16, va_up_ne _ _ c9, o15, va_up_ne _ _ c8, va_up_ne _ _ c0, o14, va_up_ne _ _ c11, va_up_ne _ _ c0, o13, va_up_ne _ _ c11, va_up_ne _ _ c0, o12, va_up_ne _ _ c11, o11, va_up_ne _ _ c10, va_up_ne _ _ c0, o10, va_up_ne _ _ c10, o9, va_up_ne _ _ c7, o8, va_up_ne _ _ c6, va_up_ne _ _ c0, o7, va_up_ne _ _ c5, va_up_ne _ _ c0, o6, va_up_ne _ _ c4, va_up_ne _ _ c0, o5, va_up_ne _ _ c4, o4, va_up_ne _ _ c3, va_up_ne _ _ c0, o3, va_up_ne _ _ c3, o2, va_up_ne _ _ c2, o1, va_up_ne _ _ c1]
end
section
theorem d_Cv_invert_0 : decode c_Cv_invert 0 = .ok (.aload_n 0, 1) := by decide +kernel
theorem d_Cv_invert_1 : decode c_Cv_invert 1 = .ok (.getfield 16, 3) := by decide +kernel
theorem d_Cv_invert_4 : decode c_Cv_invert 4 = .ok (.aload_n 1, 1) := by decide +kernel
theorem d_Cv_invert_5 : decode c_Cv_invert 5 = .ok (.aload_n 2, 1) := by decide +kernel
theorem d_Cv_invert_6 : decode c_Cv_invert 6 = .ok (.invokevirtual 108, 3) := by decide +kernel
theorem d_Cv_invert_9 : decode c_Cv_invert 9 = .ok (.sipush 253, 3) := by decide +kernel
theorem d_Cv_invert_12 : decode c_Cv_invert 12 = .ok (.istore_n 3, 1) := by decide +kernel
theorem d_Cv_invert_13 : decode c_Cv_invert 13 = .ok (.iload_n 3, 1) := by decide +kernel
theorem d_Cv_invert_14 : decode c_Cv_invert 14 = .ok (.ifCond .lt 39, 3) := by decide +kernel
theorem d_Cv_invert_17 : decode c_Cv_invert 17 = .ok (.aload_n 0, 1) := by decide +kernel
theorem d_Cv_invert_18 : decode c_Cv_invert 18 = .ok (.getfield 16, 3) := by decide +kernel
theorem d_Cv_invert_21 : decode c_Cv_invert 21 = .ok (.aload_n 2, 1) := by decide +kernel
theorem d_Cv_invert_22 : decode c_Cv_invert 22 = .ok (.aload_n 2, 1) := by decide +kernel
theorem d_Cv_invert_23 : decode c_Cv_invert 23 = .ok (.aload_n 2, 1) := by decide +kernel
theorem d_Cv_invert_24 : decode c_Cv_invert 24 = .ok (.invokevirtual 82, 3) := by decide +kernel
theorem d_Cv_invert_27 : decode c_Cv_invert 27 = .ok (.iload_n 3, 1) := by decide +kernel
theorem d_Cv_invert_28 : decode c_Cv_invert 28 = .ok (.iconst 2, 1) := by decide +kernel
theorem d_Cv_invert_29 : decode c_Cv_invert 29 = .ok (.if_icmp .eq 18, 3) := by decide +kernel
theorem d_Cv_invert_32 : decode c_Cv_invert 32 = .ok (.iload_n 3, 1) := by decide +kernel
theorem d_Cv_invert_33 : decode c_Cv_invert 33 = .ok (.iconst 4, 1) := by decide +kernel
theorem d_Cv_invert_34 : decode c_Cv_invert 34 = .ok (.if_icmp .eq 13, 3) := by decide +kernel
theorem d_Cv_invert_37 : decode c_Cv_invert 37 = .ok (.aload_n 0, 1) := by decide +kernel
theorem d_Cv_invert_38 : decode c_Cv_invert 38 = .ok (.getfield 16, 3) := by decide +kernel
theorem d_Cv_invert_41 : decode c_Cv_invert 41 = .ok (.aload_n 2, 1) := by decide +kernel
theorem d_Cv_invert_42 : decode c_Cv_invert 42 = .ok (.aload_n 1, 1) := by decide +kernel
theorem d_Cv_invert_43 : decode c_Cv_invert 43 = .ok (.aload_n 2, 1) := by decide +kernel
theorem d_Cv_invert_44 : decode c_Cv_invert 44 = .ok (.invokevirtual 82, 3) := by decide +kernel
theorem d_Cv_invert_47 : decode c_Cv_invert 47 = .ok (.iinc 3 (-1), 3) := by decide +kernel
theorem d_Cv_invert_50 : decode c_Cv_invert 50 = .ok (.goto (-37), 3) := by decide +kernel
theorem d_Cv_invert_53 : decode c_Cv_invert 53 = .ok (.return_, 1) := by decide +kernel
set_option maxRecDepth 100000 in
set_option maxHeartbeats 4000000 in
/-- b^(p - 2) -/
theorem m_Cv_invert (l : Launch) (G : wG) (A : Nat → Prop) (ad : Nat → Nat) (ev : Nat → va_E) (X zE zW : Nat → Int64) (h18 : ev 18 = eO 0 [.ref (ad 19), .ref (ad 21), .ref (ad 22), .ref (ad 23), .ref (ad 24), .ref (ad 25), .ref (ad 26), .ref (ad 27), .ref (ad 28), .ref (ad 29), .ref (ad 30), .ref (ad 31), .ref (ad 32), .ref (ad 33)]) (h19 : ev 19 = eO 1 [.int (nI 10), .int (nI 21), .long 19, .long 608, .ref (ad 20)]) (h20 : ev 20 = eJ G 20 zW) (h23 : ev 23 = eJ G 10 X) (h27 : ev 27 = eJ G 10 zE) : wM l y_Cv_invert w_Cv_invert ({ frames := 12, cells := 0, slots := 0, locals := 400 }) G A 52 ad ev [.ref (ad 18), .ref (ad 23), .ref (ad 27)] (fun ov ev' => ∃ Wd : Nat → Int64, ov = none ∧ ev' = va_up (va_up ev 20 (eJ G 20 Wd)) 27 (eJ G 10 (ivS X 254))) := by
  refine wv_ofW (cc := c_Cv_invert) (maxL := 4) (ret := none) (by decide) rfl (Nat.le_of_ble_eq_true rfl) ?_
  intro p e s m below meth c ls hx hb hr hml hts hown hlocks hini h hl
  have hl : lv_has ls 4 [(0, .ref (ad 18)), (1, .ref (ad 23)), (2, .ref (ad 27))] := hl
  refine lv_aload_n hx hb d_Cv_invert_0 rfl (lv_at hl 0 rfl) ?_
  refine wv_getf hx hb h 18 (by decide) (fs := [.ref (ad 19), .ref (ad 21), .ref (ad 22), .ref (ad 23), .ref (ad 24), .ref (ad 25), .ref (ad 26), .ref (ad 27), .ref (ad 28), .ref (ad 29), .ref (ad 30), .ref (ad 31), .ref (ad 32), .ref (ad 33)]) h18 hts (fun w hw => List.mem_cons_of_mem _ (fW_Cv w hw)) hown (ci := 0) (C := "NonceBox$Curve") (T := fT_Cv) (N := 14) rfl 0 (by decide) (hts _ (List.mem_cons_of_mem _ kf_Cv_16)) rfl (v := .ref (ad 19)) rfl d_Cv_invert_1 ?_
  refine lv_aload_n hx hb d_Cv_invert_4 rfl (lv_at hl 1 rfl) ?_
  refine lv_aload_n hx hb d_Cv_invert_5 rfl (lv_at hl 2 rfl) ?_
  refine wv_V (As := [.ref (ad 23), .ref (ad 27)]) (rest := []) (k := 2) ⟨hx, hb, hml, hown, hts⟩ h 19 (by decide) (C := "NonceBox$Field") h19 rfl (m_Fd_copy l G A ad ev 19 20 10 21 19 608 (by decide) h19 (by decide) (by decide) 23 27 X zE (by decide) (by decide) h23 h27 (by decide) (by decide)) kc_Fd_copy kl_Cv_108 km_Fd_copy kv_Fd_copy ki_Fd (by decide +kernel) ⟨rfl, rfl, Nat.le_of_ble_eq_true rfl, Nat.le_of_ble_eq_true rfl⟩ hl.1 rfl rfl (Nat.le_of_ble_eq_true rfl) ⟨Nat.le_refl _, Nat.le_refl _⟩ d_Cv_invert_6 ?_
  intro ov ev1 H locs hp h
  rw [hp.1]
  refine W.eq (g2 := F0 m 9 ls []) rfl ?_
  have o1 : ev1 = (va_up ev 27 (eJ G 10 X)) := hp.2
  have t1_27 : ev1 27 = eJ G 10 X := by rw [o1, va_up_self]
  have t1_23 := (show ev1 23 = ev 23 by rw [o1, va_up_ne _ _ (by decide)]).trans h23
  have t1_20 := (show ev1 20 = ev 20 by rw [o1, va_up_ne _ _ (by decide)]).trans h20
  have t1_18 := (show ev1 18 = ev 18 by rw [o1, va_up_ne _ _ (by decide)]).trans h18
  have t1_19 := (show ev1 19 = ev 19 by rw [o1, va_up_ne _ _ (by decide)]).trans h19
  refine lv_sipush (v := nI (253)) hx hb d_Cv_invert_9 (by decide) ?_
  refine lv_istore_n (lv' := [(3, .int (nI (253))), (0, .ref (ad 18)), (1, .ref (ad 23)), (2, .ref (ad 27))]) hx hb d_Cv_invert_12 rfl hl (by decide) rfl (fun ls hl => ?_)
  rw [show nI 253 = dn 254 from rfl] at hl
  have loop2 : ∀ (d k : Nat), k + d = 254 → ∀ (Wd : Nat → Int64),  ∀ (ev2 : Nat → va_E) (H : Heap) (locs : List Loc) (ls : Array Slot), ev2 = (va_up (va_up ev1 20 (eJ G 20 Wd)) 27 (eJ G 10 (ivS X k))) → wT G A 52 ad ev2 s H locs → lv_has ls 4 [(3, .int (dn d)), (0, .ref (ad 18)), (1, .ref (ad 23)), (2, .ref (ad 27))] → W p l e ({ frames := 12, cells := 0, slots := 0, locals := 400 }) s m ([.ref (ad 18), .ref (ad 23), .ref (ad 27)] : List Value).toArray below meth c H locs 0 0 (MQ below (wQc G A 52 ad (fun ov ev' => ∃ Wd : Nat → Int64, ov = none ∧ ev' = va_up (va_up ev 20 (eJ G 20 Wd)) 27 (eJ G 10 (ivS X 254)))) ([.ref (ad 18), .ref (ad 23), .ref (ad 27)] : List Value).toArray s 0 0 A) (F0 m 13 ls []) := by
    intro d
    induction d with
    | zero =>
      intro k hk_k Wd ev2 H locs ls  o2 h hl
      have hl : lv_has ls 4 [(3, .int ((-1 : Int32))), (0, .ref (ad 18)), (1, .ref (ad 23)), (2, .ref (ad 27))] := hl
      have t2_20 : ev2 20 = eJ G 20 Wd := by rw [o2, va_up_ne _ _ (by decide), va_up_self]
      have t2_27 : ev2 27 = eJ G 10 (ivS X k) := by rw [o2, va_up_self]
      have t2_23 := (show ev2 23 = ev1 23 by rw [o2, va_up_ne _ _ (by decide), va_up_ne _ _ (by decide)]).trans t1_23
      have t2_18 := (show ev2 18 = ev1 18 by rw [o2, va_up_ne _ _ (by decide), va_up_ne _ _ (by decide)]).trans t1_18
      have t2_19 := (show ev2 19 = ev1 19 by rw [o2, va_up_ne _ _ (by decide), va_up_ne _ _ (by decide)]).trans t1_19
      refine lv_iload_n hx hb d_Cv_invert_13 rfl (lv_at hl 0 rfl) ?_
      refine lv_if_lt (tgt := 53) hx hb d_Cv_invert_14 (by decide) (fun _ => ?_) (fun hc => absurd (by decide) hc)
      refine wv_vret hx hb hr hlocks h d_Cv_invert_53 ⟨Wd, rfl, ?_⟩
      rw [o2, o1, show k = 254 by omega]
      funext j
      by_cases c0 : j = 20
      · subst c0; simp [va_up]
      by_cases c1 : j = 27
      · subst c1; simp [va_up]
      simp only [va_up, c0, c1, if_false]
    | succ d ih =>
      intro k hk_k Wd ev2 H locs ls  o2 h hl
      have hl : lv_has ls 4 [(3, .int (nI (d))), (0, .ref (ad 18)), (1, .ref (ad 23)), (2, .ref (ad 27))] := hl
      have t2_20 : ev2 20 = eJ G 20 Wd := by rw [o2, va_up_ne _ _ (by decide), va_up_self]
      have t2_27 : ev2 27 = eJ G 10 (ivS X k) := by rw [o2, va_up_self]
      have t2_23 := (show ev2 23 = ev1 23 by rw [o2, va_up_ne _ _ (by decide), va_up_ne _ _ (by decide)]).trans t1_23
      have t2_18 := (show ev2 18 = ev1 18 by rw [o2, va_up_ne _ _ (by decide), va_up_ne _ _ (by decide)]).trans t1_18
      have t2_19 := (show ev2 19 = ev1 19 by rw [o2, va_up_ne _ _ (by decide), va_up_ne _ _ (by decide)]).trans t1_19
      refine lv_iload_n hx hb d_Cv_invert_13 rfl (lv_at hl 0 rfl) ?_
      refine lv_if_lt (tgt := 53) hx hb d_Cv_invert_14 (by decide) (fun hc => absurd hc (nI_pos (by omega))) (fun _ => ?_)
      refine lv_aload_n hx hb d_Cv_invert_17 rfl (lv_at hl 1 rfl) ?_
      refine wv_getf hx hb h 18 (by decide) (fs := [.ref (ad 19), .ref (ad 21), .ref (ad 22), .ref (ad 23), .ref (ad 24), .ref (ad 25), .ref (ad 26), .ref (ad 27), .ref (ad 28), .ref (ad 29), .ref (ad 30), .ref (ad 31), .ref (ad 32), .ref (ad 33)]) t2_18 hts (fun w hw => List.mem_cons_of_mem _ (fW_Cv w hw)) hown (ci := 0) (C := "NonceBox$Curve") (T := fT_Cv) (N := 14) rfl 0 (by decide) (hts _ (List.mem_cons_of_mem _ kf_Cv_16)) rfl (v := .ref (ad 19)) rfl d_Cv_invert_18 ?_
      refine lv_aload_n hx hb d_Cv_invert_21 rfl (lv_at hl 3 rfl) ?_
      refine lv_aload_n hx hb d_Cv_invert_22 rfl (lv_at hl 3 rfl) ?_
      refine lv_aload_n hx hb d_Cv_invert_23 rfl (lv_at hl 3 rfl) ?_
      refine wv_V (As := [.ref (ad 27), .ref (ad 27), .ref (ad 27)]) (rest := []) (k := 3) ⟨hx, hb, hml, hown, hts⟩ h 19 (by decide) (C := "NonceBox$Field") t2_19 rfl (m_Fd_times l G A ad ev2 19 20 10 21 19 608 (by decide) t2_19 (by decide) (by decide) 27 27 27 (ivS X k) (ivS X k) (ivS X k) Wd (by decide) (by decide) (by decide) (by decide) t2_27 t2_27 t2_27 t2_20 (by decide) (by decide) (by decide) (by decide) (by decide)) kc_Fd_times kl_Cv_82 km_Fd_times kv_Fd_times ki_Fd (by decide +kernel) ⟨rfl, rfl, Nat.le_of_ble_eq_true rfl, Nat.le_of_ble_eq_true rfl⟩ hl.1 rfl rfl (Nat.le_of_ble_eq_true rfl) ⟨Nat.le_refl _, Nat.le_refl _⟩ d_Cv_invert_24 ?_
      intro ov ev3 H locs hp h
      rw [hp.1]
      refine W.eq (g2 := F0 m 27 ls []) rfl ?_
      have o3 : ev3 = (va_up (va_up ev2 20 (eJ G 20 (wdC (ivS X k) (ivS X k) 10))) 27 (eJ G 10 (tm (ivS X k) (ivS X k)))) := hp.2
      have t3_20 : ev3 20 = eJ G 20 (wdC (ivS X k) (ivS X k) 10) := by rw [o3, va_up_ne _ _ (by decide), va_up_self]
      have t3_27 : ev3 27 = eJ G 10 (tm (ivS X k) (ivS X k)) := by rw [o3, va_up_self]
      have t3_23 := (show ev3 23 = ev2 23 by rw [o3, va_up_ne _ _ (by decide), va_up_ne _ _ (by decide)]).trans t2_23
      have t3_18 := (show ev3 18 = ev2 18 by rw [o3, va_up_ne _ _ (by decide), va_up_ne _ _ (by decide)]).trans t2_18
      have t3_19 := (show ev3 19 = ev2 19 by rw [o3, va_up_ne _ _ (by decide), va_up_ne _ _ (by decide)]).trans t2_19
      refine lv_iload_n hx hb d_Cv_invert_27 rfl (lv_at hl 0 rfl) ?_
      refine lv_iconst (v := nI (2)) hx hb d_Cv_invert_28 (by decide) ?_
      refine lv_icmp_eq (tgt := 47) hx hb d_Cv_invert_29 (by decide) (fun hc => ?_) (fun hc => ?_)
      · have hc := (nI_eq (by omega) (by omega)).mp hc
        refine lv_iinc (v := dn d) (lv' := [(3, .int (dn d)), (0, .ref (ad 18)), (1, .ref (ad 23)), (2, .ref (ad 27))]) hx hb d_Cv_invert_47 hl (k := 0) rfl (dn_dec d) (by decide) rfl (fun ls hl => ?_)
        refine lv_goto (tgt := 13) hx hb d_Cv_invert_50 (by decide) ?_
        refine ih (k + 1) (by omega) (wdC (ivS X k) (ivS X k) 10) ev3 H locs ls ?_ h (lv_sub hl [0, 1, 2, 3] rfl)
        rw [show ivS X (k + 1) = (tm (ivS X k) (ivS X k)) from (if_pos (show 253 - k = 2 ∨ 253 - k = 4 by omega))]
        rw [o3, o2]
        funext j
        by_cases c0 : j = 20
        · subst c0; simp [va_up]
        by_cases c1 : j = 27
        · subst c1; simp [va_up]
        simp only [va_up, c0, c1, if_false]
      · have hc : ¬ d = 2 := fun q => hc ((nI_eq (by omega) (by omega)).mpr q)
        refine lv_iload_n hx hb d_Cv_invert_32 rfl (lv_at hl 0 rfl) ?_
        refine lv_iconst (v := nI (4)) hx hb d_Cv_invert_33 (by decide) ?_
        refine lv_icmp_eq (tgt := 47) hx hb d_Cv_invert_34 (by decide) (fun hc2 => ?_) (fun hc2 => ?_)
        · have hc2 := (nI_eq (by omega) (by omega)).mp hc2
          refine lv_iinc (v := dn d) (lv' := [(3, .int (dn d)), (0, .ref (ad 18)), (1, .ref (ad 23)), (2, .ref (ad 27))]) hx hb d_Cv_invert_47 hl (k := 0) rfl (dn_dec d) (by decide) rfl (fun ls hl => ?_)
          refine lv_goto (tgt := 13) hx hb d_Cv_invert_50 (by decide) ?_
          refine ih (k + 1) (by omega) (wdC (ivS X k) (ivS X k) 10) ev3 H locs ls ?_ h (lv_sub hl [0, 1, 2, 3] rfl)
          rw [show ivS X (k + 1) = (tm (ivS X k) (ivS X k)) from (if_pos (show 253 - k = 2 ∨ 253 - k = 4 by omega))]
          rw [o3, o2]
          funext j
          by_cases c0 : j = 20
          · subst c0; simp [va_up]
          by_cases c1 : j = 27
          · subst c1; simp [va_up]
          simp only [va_up, c0, c1, if_false]
        · have hc2 : ¬ d = 4 := fun q => hc2 ((nI_eq (by omega) (by omega)).mpr q)
          refine lv_aload_n hx hb d_Cv_invert_37 rfl (lv_at hl 1 rfl) ?_
          refine wv_getf hx hb h 18 (by decide) (fs := [.ref (ad 19), .ref (ad 21), .ref (ad 22), .ref (ad 23), .ref (ad 24), .ref (ad 25), .ref (ad 26), .ref (ad 27), .ref (ad 28), .ref (ad 29), .ref (ad 30), .ref (ad 31), .ref (ad 32), .ref (ad 33)]) t3_18 hts (fun w hw => List.mem_cons_of_mem _ (fW_Cv w hw)) hown (ci := 0) (C := "NonceBox$Curve") (T := fT_Cv) (N := 14) rfl 0 (by decide) (hts _ (List.mem_cons_of_mem _ kf_Cv_16)) rfl (v := .ref (ad 19)) rfl d_Cv_invert_38 ?_
          refine lv_aload_n hx hb d_Cv_invert_41 rfl (lv_at hl 3 rfl) ?_
          refine lv_aload_n hx hb d_Cv_invert_42 rfl (lv_at hl 2 rfl) ?_
          refine lv_aload_n hx hb d_Cv_invert_43 rfl (lv_at hl 3 rfl) ?_
          refine wv_V (As := [.ref (ad 27), .ref (ad 23), .ref (ad 27)]) (rest := []) (k := 3) ⟨hx, hb, hml, hown, hts⟩ h 19 (by decide) (C := "NonceBox$Field") t3_19 rfl (m_Fd_times l G A ad ev3 19 20 10 21 19 608 (by decide) t3_19 (by decide) (by decide) 27 23 27 (tm (ivS X k) (ivS X k)) X (tm (ivS X k) (ivS X k)) (wdC (ivS X k) (ivS X k) 10) (by decide) (by decide) (by decide) (by decide) t3_27 t3_23 t3_27 t3_20 (by decide) (by decide) (by decide) (by decide) (by decide)) kc_Fd_times kl_Cv_82 km_Fd_times kv_Fd_times ki_Fd (by decide +kernel) ⟨rfl, rfl, Nat.le_of_ble_eq_true rfl, Nat.le_of_ble_eq_true rfl⟩ hl.1 rfl rfl (Nat.le_of_ble_eq_true rfl) ⟨Nat.le_refl _, Nat.le_refl _⟩ d_Cv_invert_44 ?_
          intro ov ev4 H locs hp h
          rw [hp.1]
          refine W.eq (g2 := F0 m 47 ls []) rfl ?_
          have o4 : ev4 = (va_up (va_up ev3 20 (eJ G 20 (wdC (tm (ivS X k) (ivS X k)) X 10))) 27 (eJ G 10 (tm (tm (ivS X k) (ivS X k)) X))) := hp.2
          have t4_20 : ev4 20 = eJ G 20 (wdC (tm (ivS X k) (ivS X k)) X 10) := by rw [o4, va_up_ne _ _ (by decide), va_up_self]
          have t4_27 : ev4 27 = eJ G 10 (tm (tm (ivS X k) (ivS X k)) X) := by rw [o4, va_up_self]
          have t4_23 := (show ev4 23 = ev3 23 by rw [o4, va_up_ne _ _ (by decide), va_up_ne _ _ (by decide)]).trans t3_23
          have t4_18 := (show ev4 18 = ev3 18 by rw [o4, va_up_ne _ _ (by decide), va_up_ne _ _ (by decide)]).trans t3_18
          have t4_19 := (show ev4 19 = ev3 19 by rw [o4, va_up_ne _ _ (by decide), va_up_ne _ _ (by decide)]).trans t3_19
          refine lv_iinc (v := dn d) (lv' := [(3, .int (dn d)), (0, .ref (ad 18)), (1, .ref (ad 23)), (2, .ref (ad 27))]) hx hb d_Cv_invert_47 hl (k := 0) rfl (dn_dec d) (by decide) rfl (fun ls hl => ?_)
          refine lv_goto (tgt := 13) hx hb d_Cv_invert_50 (by decide) ?_
          refine ih (k + 1) (by omega) (wdC (tm (ivS X k) (ivS X k)) X 10) ev4 H locs ls ?_ h (lv_sub hl [0, 1, 2, 3] rfl)
          rw [show ivS X (k + 1) = (tm (tm (ivS X k) (ivS X k)) X) from (if_neg (show ¬ (253 - k = 2 ∨ 253 - k = 4) by omega))]
          rw [o4, o3, o2]
          funext j
          by_cases c0 : j = 20
          · subst c0; simp [va_up]
          by_cases c1 : j = 27
          · subst c1; simp [va_up]
          simp only [va_up, c0, c1, if_false]
  refine loop2 254 0 rfl zW ev1 H locs ls ?_ h (lv_sub hl [0, 1, 2, 3] rfl)
  rw [va_upi _ 20 t1_20]
  exact (va_upi _ 27 t1_27).symm
theorem d_Cv_readKey_0 : decode c_Cv_readKey 0 = .ok (.aload_n 1, 1) := by decide +kernel
theorem d_Cv_readKey_1 : decode c_Cv_readKey 1 = .ok (.iconst 0, 1) := by decide +kernel
theorem d_Cv_readKey_2 : decode c_Cv_readKey 2 = .ok (.aload_n 0, 1) := by decide +kernel
theorem d_Cv_readKey_3 : decode c_Cv_readKey 3 = .ok (.getfield 22, 3) := by decide +kernel
theorem d_Cv_readKey_6 : decode c_Cv_readKey 6 = .ok (.iconst 0, 1) := by decide +kernel
theorem d_Cv_readKey_7 : decode c_Cv_readKey 7 = .ok (.bipush 32, 2) := by decide +kernel
theorem d_Cv_readKey_9 : decode c_Cv_readKey 9 = .ok (.invokestatic 94, 3) := by decide +kernel
theorem d_Cv_readKey_12 : decode c_Cv_readKey 12 = .ok (.aload_n 0, 1) := by decide +kernel
theorem d_Cv_readKey_13 : decode c_Cv_readKey 13 = .ok (.getfield 22, 3) := by decide +kernel
theorem d_Cv_readKey_16 : decode c_Cv_readKey 16 = .ok (.iconst 0, 1) := by decide +kernel
theorem d_Cv_readKey_17 : decode c_Cv_readKey 17 = .ok (.dup2, 1) := by decide +kernel
theorem d_Cv_readKey_18 : decode c_Cv_readKey 18 = .ok (.baload, 1) := by decide +kernel
theorem d_Cv_readKey_19 : decode c_Cv_readKey 19 = .ok (.sipush 248, 3) := by decide +kernel
theorem d_Cv_readKey_22 : decode c_Cv_readKey 22 = .ok (.iand, 1) := by decide +kernel
theorem d_Cv_readKey_23 : decode c_Cv_readKey 23 = .ok (.i2b, 1) := by decide +kernel
theorem d_Cv_readKey_24 : decode c_Cv_readKey 24 = .ok (.bastore, 1) := by decide +kernel
theorem d_Cv_readKey_25 : decode c_Cv_readKey 25 = .ok (.aload_n 0, 1) := by decide +kernel
theorem d_Cv_readKey_26 : decode c_Cv_readKey 26 = .ok (.getfield 22, 3) := by decide +kernel
theorem d_Cv_readKey_29 : decode c_Cv_readKey 29 = .ok (.bipush 31, 2) := by decide +kernel
theorem d_Cv_readKey_31 : decode c_Cv_readKey 31 = .ok (.dup2, 1) := by decide +kernel
theorem d_Cv_readKey_32 : decode c_Cv_readKey 32 = .ok (.baload, 1) := by decide +kernel
theorem d_Cv_readKey_33 : decode c_Cv_readKey 33 = .ok (.bipush 127, 2) := by decide +kernel
theorem d_Cv_readKey_35 : decode c_Cv_readKey 35 = .ok (.iand, 1) := by decide +kernel
theorem d_Cv_readKey_36 : decode c_Cv_readKey 36 = .ok (.i2b, 1) := by decide +kernel
theorem d_Cv_readKey_37 : decode c_Cv_readKey 37 = .ok (.bastore, 1) := by decide +kernel
theorem d_Cv_readKey_38 : decode c_Cv_readKey 38 = .ok (.aload_n 0, 1) := by decide +kernel
theorem d_Cv_readKey_39 : decode c_Cv_readKey 39 = .ok (.getfield 22, 3) := by decide +kernel
theorem d_Cv_readKey_42 : decode c_Cv_readKey 42 = .ok (.bipush 31, 2) := by decide +kernel
theorem d_Cv_readKey_44 : decode c_Cv_readKey 44 = .ok (.dup2, 1) := by decide +kernel
theorem d_Cv_readKey_45 : decode c_Cv_readKey 45 = .ok (.baload, 1) := by decide +kernel
theorem d_Cv_readKey_46 : decode c_Cv_readKey 46 = .ok (.bipush 64, 2) := by decide +kernel
theorem d_Cv_readKey_48 : decode c_Cv_readKey 48 = .ok (.ior, 1) := by decide +kernel
theorem d_Cv_readKey_49 : decode c_Cv_readKey 49 = .ok (.i2b, 1) := by decide +kernel
theorem d_Cv_readKey_50 : decode c_Cv_readKey 50 = .ok (.bastore, 1) := by decide +kernel
theorem d_Cv_readKey_51 : decode c_Cv_readKey 51 = .ok (.return_, 1) := by decide +kernel
set_option maxRecDepth 100000 in
set_option maxHeartbeats 4000000 in
/-- the key as MULTIPLE takes it -/
theorem m_Cv_readKey (l : Launch) (G : wG) (A : Nat → Prop) (ad : Nat → Nat) (ev : Nat → va_E) (qk Nk : Nat) (K : Nat → Nat) (BY : Nat → Nat) (h18 : ev 18 = eO 0 [.ref (ad 19), .ref (ad 21), .ref (ad 22), .ref (ad 23), .ref (ad 24), .ref (ad 25), .ref (ad 26), .ref (ad 27), .ref (ad 28), .ref (ad 29), .ref (ad 30), .ref (ad 31), .ref (ad 32), .ref (ad 33)]) (hqk : qk < 52) (hk : ev qk = eB G Nk (bs K)) (hK : ∀ j, K j < 256) (h21 : ev 21 = eB G 32 (bs BY)) (nk : 32 ≤ Nk) (nk2 : Nk < 2 ^ 30) (k21 : qk ≠ 21) : wM l y_Cv_readKey w_Cv_readKey ({ frames := 3, cells := 0, slots := 0, locals := 100 }) G A 52 ad ev [.ref (ad 18), .ref (ad qk)] (fun ov ev' => ov = none ∧ ev' = va_up ev 21 (eB G 32 (bs (KEYB K)))) := by
  refine wv_ofW (cc := c_Cv_readKey) (maxL := 2) (ret := none) (by decide) rfl (Nat.le_of_ble_eq_true rfl) ?_
  intro p e s m below meth c ls hx hb hr hml hts hown hlocks hini h hl
  have hl : lv_has ls 2 [(0, .ref (ad 18)), (1, .ref (ad qk))] := hl
  refine lv_aload_n hx hb d_Cv_readKey_0 rfl (lv_at hl 1 rfl) ?_
  refine lv_iconst (v := nI (0)) hx hb d_Cv_readKey_1 (by decide) ?_
  refine lv_aload_n hx hb d_Cv_readKey_2 rfl (lv_at hl 0 rfl) ?_
  refine wv_getf hx hb h 18 (by decide) (fs := [.ref (ad 19), .ref (ad 21), .ref (ad 22), .ref (ad 23), .ref (ad 24), .ref (ad 25), .ref (ad 26), .ref (ad 27), .ref (ad 28), .ref (ad 29), .ref (ad 30), .ref (ad 31), .ref (ad 32), .ref (ad 33)]) h18 hts (fun w hw => List.mem_cons_of_mem _ (fW_Cv w hw)) hown (ci := 0) (C := "NonceBox$Curve") (T := fT_Cv) (N := 14) rfl 1 (by decide) (hts _ (List.mem_cons_of_mem _ kf_Cv_22)) rfl (v := .ref (ad 21)) rfl d_Cv_readKey_3 ?_
  refine lv_iconst (v := nI (0)) hx hb d_Cv_readKey_6 (by decide) ?_
  refine lv_bipush (v := nI (32)) hx hb d_Cv_readKey_7 (by decide) ?_
  refine wv_copyb hx hb (hml.trans hl.1.symm) h hown (hts _ (List.mem_cons_of_mem _ kl_Cv_94)) (hts _ (List.mem_cons_of_mem _ kn_Sy_arraycopy)) (hts _ (List.mem_cons_of_mem _ ks_Sy_arraycopy)) (hts _ (List.mem_cons_of_mem _ ki_Sy)) qk 21 hqk (by decide) (f := (bs K)) (g := (bs BY)) hk h21 (a := 0) (b := 0) (d := 32) rfl rfl rfl (by omega) (by omega) (by omega) (by decide) (fun i _ => bs_fit _ _) (by decide) (by decide) d_Cv_readKey_9 (fun H locs h => ?_)
  obtain ⟨ev1, o1⟩ : ∃ z, z = va_up ev 21 (eB G 32 (va_cpy (bs K) (bs BY) 0 0 32)) := ⟨_, rfl⟩
  rw [← o1] at h
  have t1_21 : ev1 21 = eB G 32 (va_cpy (bs K) (bs BY) 0 0 32) := by rw [o1, va_up_self]
  have t1_qk := (show ev1 qk = ev qk by rw [o1, va_up_ne _ _ k21]).trans hk
  have t1_18 := (show ev1 18 = ev 18 by rw [o1, va_up_ne _ _ (by decide)]).trans h18
  have h := wT_eqB (g := (bs K)) h 21 (by decide) t1_21 (fun j hj => by rw [pk_cpy_in (Nat.zero_le _) (by omega), Nat.zero_add, Nat.sub_zero])
  obtain ⟨ev2, o2⟩ : ∃ z, z = va_up ev1 21 (eB G 32 (bs K)) := ⟨_, rfl⟩
  rw [← o2] at h
  have t2_21 : ev2 21 = eB G 32 (bs K) := by rw [o2, va_up_self]
  have t2_qk := (show ev2 qk = ev1 qk by rw [o2, va_up_ne _ _ k21]).trans t1_qk
  have t2_18 := (show ev2 18 = ev1 18 by rw [o2, va_up_ne _ _ (by decide)]).trans t1_18
  refine lv_aload_n hx hb d_Cv_readKey_12 rfl (lv_at hl 0 rfl) ?_
  refine wv_getf hx hb h 18 (by decide) (fs := [.ref (ad 19), .ref (ad 21), .ref (ad 22), .ref (ad 23), .ref (ad 24), .ref (ad 25), .ref (ad 26), .ref (ad 27), .ref (ad 28), .ref (ad 29), .ref (ad 30), .ref (ad 31), .ref (ad 32), .ref (ad 33)]) t2_18 hts (fun w hw => List.mem_cons_of_mem _ (fW_Cv w hw)) hown (ci := 0) (C := "NonceBox$Curve") (T := fT_Cv) (N := 14) rfl 1 (by decide) (hts _ (List.mem_cons_of_mem _ kf_Cv_22)) rfl (v := .ref (ad 21)) rfl d_Cv_readKey_13 ?_
  refine lv_iconst (v := nI (0)) hx hb d_Cv_readKey_16 (by decide) ?_
  refine lv_dup2_11 hx hb d_Cv_readKey_17 rfl rfl ?_
  refine wv_bald hx hb h 21 (by decide) (f := (bs K)) t2_21 (k := 0) rfl (by decide) (by decide) d_Cv_readKey_18 ?_
  refine lv_sipush (v := (248 : Int32)) hx hb d_Cv_readKey_19 (by decide) ?_
  refine lv_iand hx hb d_Cv_readKey_22 ?_
  refine lv_i2b hx hb d_Cv_readKey_23 rfl ?_
  refine wv_bast hx hb h 21 (by decide) (f := (bs K)) t2_21 (k := 0) rfl (by decide) (by decide) d_Cv_readKey_24 (fun H locs h => ?_)
  obtain ⟨ev3, o3⟩ : ∃ z, z = va_up ev2 21 (eB G 32 (va_up ((bs K)) 0 (vp_nar .byte (((((bs K)) 0) &&& (248 : Int32)).toInt8.toInt32)))) := ⟨_, rfl⟩
  rw [← o3] at h
  have t3_21 : ev3 21 = eB G 32 (va_up ((bs K)) 0 (vp_nar .byte (((((bs K)) 0) &&& (248 : Int32)).toInt8.toInt32))) := by rw [o3, va_up_self]
  have t3_18 := (show ev3 18 = ev2 18 by rw [o3, va_up_ne _ _ (by decide)]).trans t2_18
  rw [bs_up K 0 (K 0 / 8 * 8) (show vp_nar .byte (bs K 0 &&& (248 : Int32)).toInt8.toInt32 = sb_b (K 0 / 8 * 8) from sb_m248 _ (hK 0))] at o3 t3_21
  refine lv_aload_n hx hb d_Cv_readKey_25 rfl (lv_at hl 0 rfl) ?_
  refine wv_getf hx hb h 18 (by decide) (fs := [.ref (ad 19), .ref (ad 21), .ref (ad 22), .ref (ad 23), .ref (ad 24), .ref (ad 25), .ref (ad 26), .ref (ad 27), .ref (ad 28), .ref (ad 29), .ref (ad 30), .ref (ad 31), .ref (ad 32), .ref (ad 33)]) t3_18 hts (fun w hw => List.mem_cons_of_mem _ (fW_Cv w hw)) hown (ci := 0) (C := "NonceBox$Curve") (T := fT_Cv) (N := 14) rfl 1 (by decide) (hts _ (List.mem_cons_of_mem _ kf_Cv_22)) rfl (v := .ref (ad 21)) rfl d_Cv_readKey_26 ?_
  refine lv_bipush (v := nI (31)) hx hb d_Cv_readKey_29 (by decide) ?_
  refine lv_dup2_11 hx hb d_Cv_readKey_31 rfl rfl ?_
  refine wv_bald hx hb h 21 (by decide) (f := (bs (va_up K 0 (K 0 / 8 * 8)))) t3_21 (k := 31) rfl (by decide) (by decide) d_Cv_readKey_32 ?_
  refine lv_bipush (v := (127 : Int32)) hx hb d_Cv_readKey_33 (by decide) ?_
  refine lv_iand hx hb d_Cv_readKey_35 ?_
  refine lv_i2b hx hb d_Cv_readKey_36 rfl ?_
  refine wv_bast hx hb h 21 (by decide) (f := (bs (va_up K 0 (K 0 / 8 * 8)))) t3_21 (k := 31) rfl (by decide) (by decide) d_Cv_readKey_37 (fun H locs h => ?_)
  obtain ⟨ev4, o4⟩ : ∃ z, z = va_up ev3 21 (eB G 32 (va_up ((bs (va_up K 0 (K 0 / 8 * 8)))) 31 (vp_nar .byte (((((bs (va_up K 0 (K 0 / 8 * 8)))) 31) &&& (127 : Int32)).toInt8.toInt32)))) := ⟨_, rfl⟩
  rw [← o4] at h
  have t4_21 : ev4 21 = eB G 32 (va_up ((bs (va_up K 0 (K 0 / 8 * 8)))) 31 (vp_nar .byte (((((bs (va_up K 0 (K 0 / 8 * 8)))) 31) &&& (127 : Int32)).toInt8.toInt32))) := by rw [o4, va_up_self]
  have t4_18 := (show ev4 18 = ev3 18 by rw [o4, va_up_ne _ _ (by decide)]).trans t3_18
  rw [bs_up (va_up K 0 (K 0 / 8 * 8)) 31 (K 31 % 128) (show vp_nar .byte (bs (va_up K 0 (K 0 / 8 * 8)) 31 &&& (127 : Int32)).toInt8.toInt32 = sb_b (K 31 % 128) from sb_m127 _ (hK 31))] at o4 t4_21
  refine lv_aload_n hx hb d_Cv_readKey_38 rfl (lv_at hl 0 rfl) ?_
  refine wv_getf hx hb h 18 (by decide) (fs := [.ref (ad 19), .ref (ad 21), .ref (ad 22), .ref (ad 23), .ref (ad 24), .ref (ad 25), .ref (ad 26), .ref (ad 27), .ref (ad 28), .ref (ad 29), .ref (ad 30), .ref (ad 31), .ref (ad 32), .ref (ad 33)]) t4_18 hts (fun w hw => List.mem_cons_of_mem _ (fW_Cv w hw)) hown (ci := 0) (C := "NonceBox$Curve") (T := fT_Cv) (N := 14) rfl 1 (by decide) (hts _ (List.mem_cons_of_mem _ kf_Cv_22)) rfl (v := .ref (ad 21)) rfl d_Cv_readKey_39 ?_
  refine lv_bipush (v := nI (31)) hx hb d_Cv_readKey_42 (by decide) ?_
  refine lv_dup2_11 hx hb d_Cv_readKey_44 rfl rfl ?_
  refine wv_bald hx hb h 21 (by decide) (f := (bs (va_up (va_up K 0 (K 0 / 8 * 8)) 31 (K 31 % 128)))) t4_21 (k := 31) rfl (by decide) (by decide) d_Cv_readKey_45 ?_
  refine lv_bipush (v := (64 : Int32)) hx hb d_Cv_readKey_46 (by decide) ?_
  refine lv_ior hx hb d_Cv_readKey_48 ?_
  refine lv_i2b hx hb d_Cv_readKey_49 rfl ?_
  refine wv_bast hx hb h 21 (by decide) (f := (bs (va_up (va_up K 0 (K 0 / 8 * 8)) 31 (K 31 % 128)))) t4_21 (k := 31) rfl (by decide) (by decide) d_Cv_readKey_50 (fun H locs h => ?_)
  obtain ⟨ev5, o5⟩ : ∃ z, z = va_up ev4 21 (eB G 32 (va_up ((bs (va_up (va_up K 0 (K 0 / 8 * 8)) 31 (K 31 % 128)))) 31 (vp_nar .byte (((((bs (va_up (va_up K 0 (K 0 / 8 * 8)) 31 (K 31 % 128)))) 31) ||| (64 : Int32)).toInt8.toInt32)))) := ⟨_, rfl⟩
  rw [← o5] at h
  have t5_21 : ev5 21 = eB G 32 (va_up ((bs (va_up (va_up K 0 (K 0 / 8 * 8)) 31 (K 31 % 128)))) 31 (vp_nar .byte (((((bs (va_up (va_up K 0 (K 0 / 8 * 8)) 31 (K 31 % 128)))) 31) ||| (64 : Int32)).toInt8.toInt32))) := by rw [o5, va_up_self]
  have t5_18 := (show ev5 18 = ev4 18 by rw [o5, va_up_ne _ _ (by decide)]).trans t4_18
  rw [bs_up (va_up (va_up K 0 (K 0 / 8 * 8)) 31 (K 31 % 128)) 31 (K 31 % 64 + 64) (show vp_nar .byte (bs (va_up (va_up K 0 (K 0 / 8 * 8)) 31 (K 31 % 128)) 31 ||| (64 : Int32)).toInt8.toInt32 = sb_b (K 31 % 64 + 64) from (sb_o64 (K 31 % 128) (by omega)).trans (by rw [show K 31 % 128 % 64 = K 31 % 64 by omega]))] at o5 t5_21
  refine wv_vret hx hb hr hlocks h d_Cv_readKey_51 ⟨rfl, ?_⟩
  rw [o5, o4, o3, o2, o1, va_up2, va_up2, va_up2, va_up2]
  congr 3
  funext j
  simp only [va_up, KEYB]
  by_cases c0 : j = 0
  · subst c0; simp
  by_cases c1 : j = 31
  · subst c1; simp
  simp only [c0, c1, if_false]
theorem d_Cv_begin_0 : decode c_Cv_begin 0 = .ok (.aload_n 1, 1) := by decide +kernel
theorem d_Cv_begin_1 : decode c_Cv_begin 1 = .ok (.iconst 0, 1) := by decide +kernel
theorem d_Cv_begin_2 : decode c_Cv_begin 2 = .ok (.aload_n 0, 1) := by decide +kernel
theorem d_Cv_begin_3 : decode c_Cv_begin 3 = .ok (.getfield 22, 3) := by decide +kernel
theorem d_Cv_begin_6 : decode c_Cv_begin 6 = .ok (.iconst 0, 1) := by decide +kernel
theorem d_Cv_begin_7 : decode c_Cv_begin 7 = .ok (.bipush 32, 2) := by decide +kernel
theorem d_Cv_begin_9 : decode c_Cv_begin 9 = .ok (.invokestatic 94, 3) := by decide +kernel
theorem d_Cv_begin_12 : decode c_Cv_begin 12 = .ok (.aload_n 0, 1) := by decide +kernel
theorem d_Cv_begin_13 : decode c_Cv_begin 13 = .ok (.getfield 22, 3) := by decide +kernel
theorem d_Cv_begin_16 : decode c_Cv_begin 16 = .ok (.bipush 31, 2) := by decide +kernel
theorem d_Cv_begin_18 : decode c_Cv_begin 18 = .ok (.dup2, 1) := by decide +kernel
theorem d_Cv_begin_19 : decode c_Cv_begin 19 = .ok (.baload, 1) := by decide +kernel
theorem d_Cv_begin_20 : decode c_Cv_begin 20 = .ok (.bipush 127, 2) := by decide +kernel
theorem d_Cv_begin_22 : decode c_Cv_begin 22 = .ok (.iand, 1) := by decide +kernel
theorem d_Cv_begin_23 : decode c_Cv_begin 23 = .ok (.i2b, 1) := by decide +kernel
theorem d_Cv_begin_24 : decode c_Cv_begin 24 = .ok (.bastore, 1) := by decide +kernel
theorem d_Cv_begin_25 : decode c_Cv_begin 25 = .ok (.aload_n 0, 1) := by decide +kernel
theorem d_Cv_begin_26 : decode c_Cv_begin 26 = .ok (.getfield 16, 3) := by decide +kernel
theorem d_Cv_begin_29 : decode c_Cv_begin 29 = .ok (.aload_n 0, 1) := by decide +kernel
theorem d_Cv_begin_30 : decode c_Cv_begin 30 = .ok (.getfield 43, 3) := by decide +kernel
theorem d_Cv_begin_33 : decode c_Cv_begin 33 = .ok (.iconst 0, 1) := by decide +kernel
theorem d_Cv_begin_34 : decode c_Cv_begin 34 = .ok (.invokevirtual 100, 3) := by decide +kernel
theorem d_Cv_begin_37 : decode c_Cv_begin 37 = .ok (.aload_n 0, 1) := by decide +kernel
theorem d_Cv_begin_38 : decode c_Cv_begin 38 = .ok (.getfield 16, 3) := by decide +kernel
theorem d_Cv_begin_41 : decode c_Cv_begin 41 = .ok (.aload_n 0, 1) := by decide +kernel
theorem d_Cv_begin_42 : decode c_Cv_begin 42 = .ok (.getfield 22, 3) := by decide +kernel
theorem d_Cv_begin_45 : decode c_Cv_begin 45 = .ok (.iconst 0, 1) := by decide +kernel
theorem d_Cv_begin_46 : decode c_Cv_begin 46 = .ok (.bipush 32, 2) := by decide +kernel
theorem d_Cv_begin_48 : decode c_Cv_begin 48 = .ok (.aload_n 0, 1) := by decide +kernel
theorem d_Cv_begin_49 : decode c_Cv_begin 49 = .ok (.getfield 43, 3) := by decide +kernel
theorem d_Cv_begin_52 : decode c_Cv_begin 52 = .ok (.invokevirtual 104, 3) := by decide +kernel
theorem d_Cv_begin_55 : decode c_Cv_begin 55 = .ok (.aload_n 0, 1) := by decide +kernel
theorem d_Cv_begin_56 : decode c_Cv_begin 56 = .ok (.getfield 16, 3) := by decide +kernel
theorem d_Cv_begin_59 : decode c_Cv_begin 59 = .ok (.aload_n 0, 1) := by decide +kernel
theorem d_Cv_begin_60 : decode c_Cv_begin 60 = .ok (.getfield 30, 3) := by decide +kernel
theorem d_Cv_begin_63 : decode c_Cv_begin 63 = .ok (.iconst 1, 1) := by decide +kernel
theorem d_Cv_begin_64 : decode c_Cv_begin 64 = .ok (.invokevirtual 100, 3) := by decide +kernel
theorem d_Cv_begin_67 : decode c_Cv_begin 67 = .ok (.aload_n 0, 1) := by decide +kernel
theorem d_Cv_begin_68 : decode c_Cv_begin 68 = .ok (.getfield 16, 3) := by decide +kernel
theorem d_Cv_begin_71 : decode c_Cv_begin 71 = .ok (.aload_n 0, 1) := by decide +kernel
theorem d_Cv_begin_72 : decode c_Cv_begin 72 = .ok (.getfield 34, 3) := by decide +kernel
theorem d_Cv_begin_75 : decode c_Cv_begin 75 = .ok (.iconst 0, 1) := by decide +kernel
theorem d_Cv_begin_76 : decode c_Cv_begin 76 = .ok (.invokevirtual 100, 3) := by decide +kernel
theorem d_Cv_begin_79 : decode c_Cv_begin 79 = .ok (.aload_n 0, 1) := by decide +kernel
theorem d_Cv_begin_80 : decode c_Cv_begin 80 = .ok (.getfield 16, 3) := by decide +kernel
theorem d_Cv_begin_83 : decode c_Cv_begin 83 = .ok (.aload_n 0, 1) := by decide +kernel
theorem d_Cv_begin_84 : decode c_Cv_begin 84 = .ok (.getfield 43, 3) := by decide +kernel
theorem d_Cv_begin_87 : decode c_Cv_begin 87 = .ok (.aload_n 0, 1) := by decide +kernel
theorem d_Cv_begin_88 : decode c_Cv_begin 88 = .ok (.getfield 37, 3) := by decide +kernel
theorem d_Cv_begin_91 : decode c_Cv_begin 91 = .ok (.invokevirtual 108, 3) := by decide +kernel
theorem d_Cv_begin_94 : decode c_Cv_begin 94 = .ok (.aload_n 0, 1) := by decide +kernel
theorem d_Cv_begin_95 : decode c_Cv_begin 95 = .ok (.getfield 16, 3) := by decide +kernel
theorem d_Cv_begin_98 : decode c_Cv_begin 98 = .ok (.aload_n 0, 1) := by decide +kernel
theorem d_Cv_begin_99 : decode c_Cv_begin 99 = .ok (.getfield 40, 3) := by decide +kernel
theorem d_Cv_begin_102 : decode c_Cv_begin 102 = .ok (.iconst 1, 1) := by decide +kernel
theorem d_Cv_begin_103 : decode c_Cv_begin 103 = .ok (.invokevirtual 100, 3) := by decide +kernel
theorem d_Cv_begin_106 : decode c_Cv_begin 106 = .ok (.return_, 1) := by decide +kernel
set_option maxRecDepth 100000 in
set_option maxHeartbeats 4000000 in
/-- the four rows at the start -/
theorem m_Cv_begin (l : Launch) (G : wG) (A : Nat → Prop) (ad : Nat → Nat) (ev : Nat → va_E) (qp Np : Nat) (X BY : Nat → Nat) (r22 r23 r24 r25 r26 : Row) (h18 : ev 18 = eO 0 [.ref (ad 19), .ref (ad 21), .ref (ad 22), .ref (ad 23), .ref (ad 24), .ref (ad 25), .ref (ad 26), .ref (ad 27), .ref (ad 28), .ref (ad 29), .ref (ad 30), .ref (ad 31), .ref (ad 32), .ref (ad 33)]) (h19 : ev 19 = eO 1 [.int (nI 10), .int (nI 21), .long 19, .long 608, .ref (ad 20)]) (hqp : qp < 52) (hp' : ev qp = eB G Np (bs X)) (hX : ∀ j, X j < 256) (h21 : ev 21 = eB G 32 (bs BY)) (h22 : ev 22 = eJ G 10 r22) (h23 : ev 23 = eJ G 10 r23) (h24 : ev 24 = eJ G 10 r24) (h25 : ev 25 = eJ G 10 r25) (h26 : ev 26 = eJ G 10 r26) (np : 32 ≤ Np) (np2 : Np < 2 ^ 30) (p21 : qp ≠ 21) : wM l y_Cv_begin w_Cv_begin ({ frames := 9, cells := 0, slots := 0, locals := 300 }) G A 52 ad ev [.ref (ad 18), .ref (ad qp)] (fun ov ev' => ov = none ∧ ev' = (va_up (va_up (va_up (va_up (va_up (va_up ev 21 (eB G 32 (bs (PNTB X)))) 26 (eJ G 10 (uRow X))) 22 (eJ G 10 (rowV 1))) 23 (eJ G 10 (rowV 0))) 24 (eJ G 10 (uRow X))) 25 (eJ G 10 (rowV 1)))) := by
  refine wv_ofW (cc := c_Cv_begin) (maxL := 2) (ret := none) (by decide) rfl (Nat.le_of_ble_eq_true rfl) ?_
  intro p e s m below meth c ls hx hb hr hml hts hown hlocks hini h hl
  have hl : lv_has ls 2 [(0, .ref (ad 18)), (1, .ref (ad qp))] := hl
  refine lv_aload_n hx hb d_Cv_begin_0 rfl (lv_at hl 1 rfl) ?_
  refine lv_iconst (v := nI (0)) hx hb d_Cv_begin_1 (by decide) ?_
  refine lv_aload_n hx hb d_Cv_begin_2 rfl (lv_at hl 0 rfl) ?_
  refine wv_getf hx hb h 18 (by decide) (fs := [.ref (ad 19), .ref (ad 21), .ref (ad 22), .ref (ad 23), .ref (ad 24), .ref (ad 25), .ref (ad 26), .ref (ad 27), .ref (ad 28), .ref (ad 29), .ref (ad 30), .ref (ad 31), .ref (ad 32), .ref (ad 33)]) h18 hts (fun w hw => List.mem_cons_of_mem _ (fW_Cv w hw)) hown (ci := 0) (C := "NonceBox$Curve") (T := fT_Cv) (N := 14) rfl 1 (by decide) (hts _ (List.mem_cons_of_mem _ kf_Cv_22)) rfl (v := .ref (ad 21)) rfl d_Cv_begin_3 ?_
  refine lv_iconst (v := nI (0)) hx hb d_Cv_begin_6 (by decide) ?_
  refine lv_bipush (v := nI (32)) hx hb d_Cv_begin_7 (by decide) ?_
  refine wv_copyb hx hb (hml.trans hl.1.symm) h hown (hts _ (List.mem_cons_of_mem _ kl_Cv_94)) (hts _ (List.mem_cons_of_mem _ kn_Sy_arraycopy)) (hts _ (List.mem_cons_of_mem _ ks_Sy_arraycopy)) (hts _ (List.mem_cons_of_mem _ ki_Sy)) qp 21 hqp (by decide) (f := (bs X)) (g := (bs BY)) hp' h21 (a := 0) (b := 0) (d := 32) rfl rfl rfl (by omega) (by omega) (by omega) (by decide) (fun i _ => bs_fit _ _) (by decide) (by decide) d_Cv_begin_9 (fun H locs h => ?_)
  obtain ⟨ev1, o1⟩ : ∃ z, z = va_up ev 21 (eB G 32 (va_cpy (bs X) (bs BY) 0 0 32)) := ⟨_, rfl⟩
  rw [← o1] at h
  have t1_21 : ev1 21 = eB G 32 (va_cpy (bs X) (bs BY) 0 0 32) := by rw [o1, va_up_self]
  have t1_qp := (show ev1 qp = ev qp by rw [o1, va_up_ne _ _ p21]).trans hp'
  have t1_22 := (show ev1 22 = ev 22 by rw [o1, va_up_ne _ _ (by decide)]).trans h22
  have t1_23 := (show ev1 23 = ev 23 by rw [o1, va_up_ne _ _ (by decide)]).trans h23
  have t1_24 := (show ev1 24 = ev 24 by rw [o1, va_up_ne _ _ (by decide)]).trans h24
  have t1_25 := (show ev1 25 = ev 25 by rw [o1, va_up_ne _ _ (by decide)]).trans h25
  have t1_26 := (show ev1 26 = ev 26 by rw [o1, va_up_ne _ _ (by decide)]).trans h26
  have t1_18 := (show ev1 18 = ev 18 by rw [o1, va_up_ne _ _ (by decide)]).trans h18
  have t1_19 := (show ev1 19 = ev 19 by rw [o1, va_up_ne _ _ (by decide)]).trans h19
  have h := wT_eqB (g := (bs X)) h 21 (by decide) t1_21 (fun j hj => by rw [pk_cpy_in (Nat.zero_le _) (by omega), Nat.zero_add, Nat.sub_zero])
  obtain ⟨ev2, o2⟩ : ∃ z, z = va_up ev1 21 (eB G 32 (bs X)) := ⟨_, rfl⟩
  rw [← o2] at h
  have t2_21 : ev2 21 = eB G 32 (bs X) := by rw [o2, va_up_self]
  have t2_qp := (show ev2 qp = ev1 qp by rw [o2, va_up_ne _ _ p21]).trans t1_qp
  have t2_22 := (show ev2 22 = ev1 22 by rw [o2, va_up_ne _ _ (by decide)]).trans t1_22
  have t2_23 := (show ev2 23 = ev1 23 by rw [o2, va_up_ne _ _ (by decide)]).trans t1_23
  have t2_24 := (show ev2 24 = ev1 24 by rw [o2, va_up_ne _ _ (by decide)]).trans t1_24
  have t2_25 := (show ev2 25 = ev1 25 by rw [o2, va_up_ne _ _ (by decide)]).trans t1_25
  have t2_26 := (show ev2 26 = ev1 26 by rw [o2, va_up_ne _ _ (by decide)]).trans t1_26
  have t2_18 := (show ev2 18 = ev1 18 by rw [o2, va_up_ne _ _ (by decide)]).trans t1_18
  have t2_19 := (show ev2 19 = ev1 19 by rw [o2, va_up_ne _ _ (by decide)]).trans t1_19
  refine lv_aload_n hx hb d_Cv_begin_12 rfl (lv_at hl 0 rfl) ?_
  refine wv_getf hx hb h 18 (by decide) (fs := [.ref (ad 19), .ref (ad 21), .ref (ad 22), .ref (ad 23), .ref (ad 24), .ref (ad 25), .ref (ad 26), .ref (ad 27), .ref (ad 28), .ref (ad 29), .ref (ad 30), .ref (ad 31), .ref (ad 32), .ref (ad 33)]) t2_18 hts (fun w hw => List.mem_cons_of_mem _ (fW_Cv w hw)) hown (ci := 0) (C := "NonceBox$Curve") (T := fT_Cv) (N := 14) rfl 1 (by decide) (hts _ (List.mem_cons_of_mem _ kf_Cv_22)) rfl (v := .ref (ad 21)) rfl d_Cv_begin_13 ?_
  refine lv_bipush (v := nI (31)) hx hb d_Cv_begin_16 (by decide) ?_
  refine lv_dup2_11 hx hb d_Cv_begin_18 rfl rfl ?_
  refine wv_bald hx hb h 21 (by decide) (f := (bs X)) t2_21 (k := 31) rfl (by decide) (by decide) d_Cv_begin_19 ?_
  refine lv_bipush (v := (127 : Int32)) hx hb d_Cv_begin_20 (by decide) ?_
  refine lv_iand hx hb d_Cv_begin_22 ?_
  refine lv_i2b hx hb d_Cv_begin_23 rfl ?_
  refine wv_bast hx hb h 21 (by decide) (f := (bs X)) t2_21 (k := 31) rfl (by decide) (by decide) d_Cv_begin_24 (fun H locs h => ?_)
  obtain ⟨ev3, o3⟩ : ∃ z, z = va_up ev2 21 (eB G 32 (va_up ((bs X)) 31 (vp_nar .byte (((((bs X)) 31) &&& (127 : Int32)).toInt8.toInt32)))) := ⟨_, rfl⟩
  rw [← o3] at h
  have t3_21 : ev3 21 = eB G 32 (va_up ((bs X)) 31 (vp_nar .byte (((((bs X)) 31) &&& (127 : Int32)).toInt8.toInt32))) := by rw [o3, va_up_self]
  have t3_22 := (show ev3 22 = ev2 22 by rw [o3, va_up_ne _ _ (by decide)]).trans t2_22
  have t3_23 := (show ev3 23 = ev2 23 by rw [o3, va_up_ne _ _ (by decide)]).trans t2_23
  have t3_24 := (show ev3 24 = ev2 24 by rw [o3, va_up_ne _ _ (by decide)]).trans t2_24
  have t3_25 := (show ev3 25 = ev2 25 by rw [o3, va_up_ne _ _ (by decide)]).trans t2_25
  have t3_26 := (show ev3 26 = ev2 26 by rw [o3, va_up_ne _ _ (by decide)]).trans t2_26
  have t3_18 := (show ev3 18 = ev2 18 by rw [o3, va_up_ne _ _ (by decide)]).trans t2_18
  have t3_19 := (show ev3 19 = ev2 19 by rw [o3, va_up_ne _ _ (by decide)]).trans t2_19
  rw [bs_up X 31 (X 31 % 128) (show vp_nar .byte (bs X 31 &&& (127 : Int32)).toInt8.toInt32 = sb_b (X 31 % 128) from sb_m127 _ (hX 31))] at o3 t3_21
  rw [show va_up X 31 (X 31 % 128) = PNTB X from by
      funext j
      unfold va_up PNTB
      by_cases c0 : j = 31
      · subst c0; simp
      · simp only [c0, if_false]] at o3 t3_21
  refine lv_aload_n hx hb d_Cv_begin_25 rfl (lv_at hl 0 rfl) ?_
  refine wv_getf hx hb h 18 (by decide) (fs := [.ref (ad 19), .ref (ad 21), .ref (ad 22), .ref (ad 23), .ref (ad 24), .ref (ad 25), .ref (ad 26), .ref (ad 27), .ref (ad 28), .ref (ad 29), .ref (ad 30), .ref (ad 31), .ref (ad 32), .ref (ad 33)]) t3_18 hts (fun w hw => List.mem_cons_of_mem _ (fW_Cv w hw)) hown (ci := 0) (C := "NonceBox$Curve") (T := fT_Cv) (N := 14) rfl 0 (by decide) (hts _ (List.mem_cons_of_mem _ kf_Cv_16)) rfl (v := .ref (ad 19)) rfl d_Cv_begin_26 ?_
  refine lv_aload_n hx hb d_Cv_begin_29 rfl (lv_at hl 0 rfl) ?_
  refine wv_getf hx hb h 18 (by decide) (fs := [.ref (ad 19), .ref (ad 21), .ref (ad 22), .ref (ad 23), .ref (ad 24), .ref (ad 25), .ref (ad 26), .ref (ad 27), .ref (ad 28), .ref (ad 29), .ref (ad 30), .ref (ad 31), .ref (ad 32), .ref (ad 33)]) t3_18 hts (fun w hw => List.mem_cons_of_mem _ (fW_Cv w hw)) hown (ci := 0) (C := "NonceBox$Curve") (T := fT_Cv) (N := 14) rfl 6 (by decide) (hts _ (List.mem_cons_of_mem _ kf_Cv_43)) rfl (v := .ref (ad 26)) rfl d_Cv_begin_30 ?_
  refine lv_iconst (v := nI (0)) hx hb d_Cv_begin_33 (by decide) ?_
  refine wv_V (As := [.ref (ad 26), .int (nI (0))]) (rest := []) (k := 2) ⟨hx, hb, hml, hown, hts⟩ h 19 (by decide) (C := "NonceBox$Field") t3_19 rfl (m_Fd_setTo l G A ad ev3 19 26 10 r26 (nI 0) (by decide) t3_26 (by decide) (by decide)) kc_Fd_setTo kl_Cv_100 km_Fd_setTo kv_Fd_setTo ki_Fd (by decide +kernel) ⟨rfl, rfl, Nat.le_of_ble_eq_true rfl, Nat.le_of_ble_eq_true rfl⟩ hl.1 rfl rfl (Nat.le_of_ble_eq_true rfl) ⟨Nat.le_refl _, Nat.le_refl _⟩ d_Cv_begin_34 ?_
  intro ov ev4 H locs hp h
  rw [hp.1]
  refine W.eq (g2 := F0 m 37 ls []) rfl ?_
  have o4 : ev4 = (va_up ev3 26 (eJ G 10 (rowV 0))) := hp.2
  have t4_26 : ev4 26 = eJ G 10 (rowV 0) := by rw [o4, va_up_self]
  have t4_21 := (show ev4 21 = ev3 21 by rw [o4, va_up_ne _ _ (by decide)]).trans t3_21
  have t4_22 := (show ev4 22 = ev3 22 by rw [o4, va_up_ne _ _ (by decide)]).trans t3_22
  have t4_23 := (show ev4 23 = ev3 23 by rw [o4, va_up_ne _ _ (by decide)]).trans t3_23
  have t4_24 := (show ev4 24 = ev3 24 by rw [o4, va_up_ne _ _ (by decide)]).trans t3_24
  have t4_25 := (show ev4 25 = ev3 25 by rw [o4, va_up_ne _ _ (by decide)]).trans t3_25
  have t4_18 := (show ev4 18 = ev3 18 by rw [o4, va_up_ne _ _ (by decide)]).trans t3_18
  have t4_19 := (show ev4 19 = ev3 19 by rw [o4, va_up_ne _ _ (by decide)]).trans t3_19
  refine lv_aload_n hx hb d_Cv_begin_37 rfl (lv_at hl 0 rfl) ?_
  refine wv_getf hx hb h 18 (by decide) (fs := [.ref (ad 19), .ref (ad 21), .ref (ad 22), .ref (ad 23), .ref (ad 24), .ref (ad 25), .ref (ad 26), .ref (ad 27), .ref (ad 28), .ref (ad 29), .ref (ad 30), .ref (ad 31), .ref (ad 32), .ref (ad 33)]) t4_18 hts (fun w hw => List.mem_cons_of_mem _ (fW_Cv w hw)) hown (ci := 0) (C := "NonceBox$Curve") (T := fT_Cv) (N := 14) rfl 0 (by decide) (hts _ (List.mem_cons_of_mem _ kf_Cv_16)) rfl (v := .ref (ad 19)) rfl d_Cv_begin_38 ?_
  refine lv_aload_n hx hb d_Cv_begin_41 rfl (lv_at hl 0 rfl) ?_
  refine wv_getf hx hb h 18 (by decide) (fs := [.ref (ad 19), .ref (ad 21), .ref (ad 22), .ref (ad 23), .ref (ad 24), .ref (ad 25), .ref (ad 26), .ref (ad 27), .ref (ad 28), .ref (ad 29), .ref (ad 30), .ref (ad 31), .ref (ad 32), .ref (ad 33)]) t4_18 hts (fun w hw => List.mem_cons_of_mem _ (fW_Cv w hw)) hown (ci := 0) (C := "NonceBox$Curve") (T := fT_Cv) (N := 14) rfl 1 (by decide) (hts _ (List.mem_cons_of_mem _ kf_Cv_22)) rfl (v := .ref (ad 21)) rfl d_Cv_begin_42 ?_
  refine lv_iconst (v := nI (0)) hx hb d_Cv_begin_45 (by decide) ?_
  refine lv_bipush (v := nI (32)) hx hb d_Cv_begin_46 (by decide) ?_
  refine lv_aload_n hx hb d_Cv_begin_48 rfl (lv_at hl 0 rfl) ?_
  refine wv_getf hx hb h 18 (by decide) (fs := [.ref (ad 19), .ref (ad 21), .ref (ad 22), .ref (ad 23), .ref (ad 24), .ref (ad 25), .ref (ad 26), .ref (ad 27), .ref (ad 28), .ref (ad 29), .ref (ad 30), .ref (ad 31), .ref (ad 32), .ref (ad 33)]) t4_18 hts (fun w hw => List.mem_cons_of_mem _ (fW_Cv w hw)) hown (ci := 0) (C := "NonceBox$Curve") (T := fT_Cv) (N := 14) rfl 6 (by decide) (hts _ (List.mem_cons_of_mem _ kf_Cv_43)) rfl (v := .ref (ad 26)) rfl d_Cv_begin_49 ?_
  refine wv_V (As := [.ref (ad 21), .int (nI (0)), .int (nI (32)), .ref (ad 26)]) (rest := []) (k := 4) ⟨hx, hb, hml, hown, hts⟩ h 19 (by decide) (C := "NonceBox$Field") t4_19 rfl (m_Fd_addBytes l G A ad ev4 19 0 _ (by decide) t4_19 21 26 10 32 0 32 (PNTB X) (rowV 0) (by decide) (by decide) t4_21 (PNTB_lt hX) t4_26 (by decide) (by decide) (by decide) (by decide) (by decide) (by decide) (by decide) (by decide)) kc_Fd_addBytes kl_Cv_104 km_Fd_addBytes kv_Fd_addBytes ki_Fd (by decide +kernel) ⟨rfl, rfl, Nat.le_of_ble_eq_true rfl, Nat.le_of_ble_eq_true rfl⟩ hl.1 rfl rfl (Nat.le_of_ble_eq_true rfl) ⟨Nat.le_refl _, Nat.le_refl _⟩ d_Cv_begin_52 ?_
  intro ov ev5 H locs hp h
  rw [hp.1]
  refine W.eq (g2 := F0 m 55 ls []) rfl ?_
  have o5 : ev5 = (va_up ev4 26 (eJ G 10 (uRow X))) := hp.2
  have t5_26 : ev5 26 = eJ G 10 (uRow X) := by rw [o5, va_up_self]
  have t5_21 := (show ev5 21 = ev4 21 by rw [o5, va_up_ne _ _ (by decide)]).trans t4_21
  have t5_22 := (show ev5 22 = ev4 22 by rw [o5, va_up_ne _ _ (by decide)]).trans t4_22
  have t5_23 := (show ev5 23 = ev4 23 by rw [o5, va_up_ne _ _ (by decide)]).trans t4_23
  have t5_24 := (show ev5 24 = ev4 24 by rw [o5, va_up_ne _ _ (by decide)]).trans t4_24
  have t5_25 := (show ev5 25 = ev4 25 by rw [o5, va_up_ne _ _ (by decide)]).trans t4_25
  have t5_18 := (show ev5 18 = ev4 18 by rw [o5, va_up_ne _ _ (by decide)]).trans t4_18
  have t5_19 := (show ev5 19 = ev4 19 by rw [o5, va_up_ne _ _ (by decide)]).trans t4_19
  refine lv_aload_n hx hb d_Cv_begin_55 rfl (lv_at hl 0 rfl) ?_
  refine wv_getf hx hb h 18 (by decide) (fs := [.ref (ad 19), .ref (ad 21), .ref (ad 22), .ref (ad 23), .ref (ad 24), .ref (ad 25), .ref (ad 26), .ref (ad 27), .ref (ad 28), .ref (ad 29), .ref (ad 30), .ref (ad 31), .ref (ad 32), .ref (ad 33)]) t5_18 hts (fun w hw => List.mem_cons_of_mem _ (fW_Cv w hw)) hown (ci := 0) (C := "NonceBox$Curve") (T := fT_Cv) (N := 14) rfl 0 (by decide) (hts _ (List.mem_cons_of_mem _ kf_Cv_16)) rfl (v := .ref (ad 19)) rfl d_Cv_begin_56 ?_
  refine lv_aload_n hx hb d_Cv_begin_59 rfl (lv_at hl 0 rfl) ?_
  refine wv_getf hx hb h 18 (by decide) (fs := [.ref (ad 19), .ref (ad 21), .ref (ad 22), .ref (ad 23), .ref (ad 24), .ref (ad 25), .ref (ad 26), .ref (ad 27), .ref (ad 28), .ref (ad 29), .ref (ad 30), .ref (ad 31), .ref (ad 32), .ref (ad 33)]) t5_18 hts (fun w hw => List.mem_cons_of_mem _ (fW_Cv w hw)) hown (ci := 0) (C := "NonceBox$Curve") (T := fT_Cv) (N := 14) rfl 2 (by decide) (hts _ (List.mem_cons_of_mem _ kf_Cv_30)) rfl (v := .ref (ad 22)) rfl d_Cv_begin_60 ?_
  refine lv_iconst (v := nI (1)) hx hb d_Cv_begin_63 (by decide) ?_
  refine wv_V (As := [.ref (ad 22), .int (nI (1))]) (rest := []) (k := 2) ⟨hx, hb, hml, hown, hts⟩ h 19 (by decide) (C := "NonceBox$Field") t5_19 rfl (m_Fd_setTo l G A ad ev5 19 22 10 r22 (nI 1) (by decide) t5_22 (by decide) (by decide)) kc_Fd_setTo kl_Cv_100 km_Fd_setTo kv_Fd_setTo ki_Fd (by decide +kernel) ⟨rfl, rfl, Nat.le_of_ble_eq_true rfl, Nat.le_of_ble_eq_true rfl⟩ hl.1 rfl rfl (Nat.le_of_ble_eq_true rfl) ⟨Nat.le_refl _, Nat.le_refl _⟩ d_Cv_begin_64 ?_
  intro ov ev6 H locs hp h
  rw [hp.1]
  refine W.eq (g2 := F0 m 67 ls []) rfl ?_
  have o6 : ev6 = (va_up ev5 22 (eJ G 10 (rowV 1))) := hp.2
  have t6_22 : ev6 22 = eJ G 10 (rowV 1) := by rw [o6, va_up_self]
  have t6_21 := (show ev6 21 = ev5 21 by rw [o6, va_up_ne _ _ (by decide)]).trans t5_21
  have t6_23 := (show ev6 23 = ev5 23 by rw [o6, va_up_ne _ _ (by decide)]).trans t5_23
  have t6_24 := (show ev6 24 = ev5 24 by rw [o6, va_up_ne _ _ (by decide)]).trans t5_24
  have t6_25 := (show ev6 25 = ev5 25 by rw [o6, va_up_ne _ _ (by decide)]).trans t5_25
  have t6_26 := (show ev6 26 = ev5 26 by rw [o6, va_up_ne _ _ (by decide)]).trans t5_26
  have t6_18 := (show ev6 18 = ev5 18 by rw [o6, va_up_ne _ _ (by decide)]).trans t5_18
  have t6_19 := (show ev6 19 = ev5 19 by rw [o6, va_up_ne _ _ (by decide)]).trans t5_19
  refine lv_aload_n hx hb d_Cv_begin_67 rfl (lv_at hl 0 rfl) ?_
  refine wv_getf hx hb h 18 (by decide) (fs := [.ref (ad 19), .ref (ad 21), .ref (ad 22), .ref (ad 23), .ref (ad 24), .ref (ad 25), .ref (ad 26), .ref (ad 27), .ref (ad 28), .ref (ad 29), .ref (ad 30), .ref (ad 31), .ref (ad 32), .ref (ad 33)]) t6_18 hts (fun w hw => List.mem_cons_of_mem _ (fW_Cv w hw)) hown (ci := 0) (C := "NonceBox$Curve") (T := fT_Cv) (N := 14) rfl 0 (by decide) (hts _ (List.mem_cons_of_mem _ kf_Cv_16)) rfl (v := .ref (ad 19)) rfl d_Cv_begin_68 ?_
  refine lv_aload_n hx hb d_Cv_begin_71 rfl (lv_at hl 0 rfl) ?_
  refine wv_getf hx hb h 18 (by decide) (fs := [.ref (ad 19), .ref (ad 21), .ref (ad 22), .ref (ad 23), .ref (ad 24), .ref (ad 25), .ref (ad 26), .ref (ad 27), .ref (ad 28), .ref (ad 29), .ref (ad 30), .ref (ad 31), .ref (ad 32), .ref (ad 33)]) t6_18 hts (fun w hw => List.mem_cons_of_mem _ (fW_Cv w hw)) hown (ci := 0) (C := "NonceBox$Curve") (T := fT_Cv) (N := 14) rfl 3 (by decide) (hts _ (List.mem_cons_of_mem _ kf_Cv_34)) rfl (v := .ref (ad 23)) rfl d_Cv_begin_72 ?_
  refine lv_iconst (v := nI (0)) hx hb d_Cv_begin_75 (by decide) ?_
  refine wv_V (As := [.ref (ad 23), .int (nI (0))]) (rest := []) (k := 2) ⟨hx, hb, hml, hown, hts⟩ h 19 (by decide) (C := "NonceBox$Field") t6_19 rfl (m_Fd_setTo l G A ad ev6 19 23 10 r23 (nI 0) (by decide) t6_23 (by decide) (by decide)) kc_Fd_setTo kl_Cv_100 km_Fd_setTo kv_Fd_setTo ki_Fd (by decide +kernel) ⟨rfl, rfl, Nat.le_of_ble_eq_true rfl, Nat.le_of_ble_eq_true rfl⟩ hl.1 rfl rfl (Nat.le_of_ble_eq_true rfl) ⟨Nat.le_refl _, Nat.le_refl _⟩ d_Cv_begin_76 ?_
  intro ov ev7 H locs hp h
  rw [hp.1]
  refine W.eq (g2 := F0 m 79 ls []) rfl ?_
  have o7 : ev7 = (va_up ev6 23 (eJ G 10 (rowV 0))) := hp.2
  have t7_23 : ev7 23 = eJ G 10 (rowV 0) := by rw [o7, va_up_self]
  have t7_21 := (show ev7 21 = ev6 21 by rw [o7, va_up_ne _ _ (by decide)]).trans t6_21
  have t7_22 := (show ev7 22 = ev6 22 by rw [o7, va_up_ne _ _ (by decide)]).trans t6_22
  have t7_24 := (show ev7 24 = ev6 24 by rw [o7, va_up_ne _ _ (by decide)]).trans t6_24
  have t7_25 := (show ev7 25 = ev6 25 by rw [o7, va_up_ne _ _ (by decide)]).trans t6_25
  have t7_26 := (show ev7 26 = ev6 26 by rw [o7, va_up_ne _ _ (by decide)]).trans t6_26
  have t7_18 := (show ev7 18 = ev6 18 by rw [o7, va_up_ne _ _ (by decide)]).trans t6_18
  have t7_19 := (show ev7 19 = ev6 19 by rw [o7, va_up_ne _ _ (by decide)]).trans t6_19
  refine lv_aload_n hx hb d_Cv_begin_79 rfl (lv_at hl 0 rfl) ?_
  refine wv_getf hx hb h 18 (by decide) (fs := [.ref (ad 19), .ref (ad 21), .ref (ad 22), .ref (ad 23), .ref (ad 24), .ref (ad 25), .ref (ad 26), .ref (ad 27), .ref (ad 28), .ref (ad 29), .ref (ad 30), .ref (ad 31), .ref (ad 32), .ref (ad 33)]) t7_18 hts (fun w hw => List.mem_cons_of_mem _ (fW_Cv w hw)) hown (ci := 0) (C := "NonceBox$Curve") (T := fT_Cv) (N := 14) rfl 0 (by decide) (hts _ (List.mem_cons_of_mem _ kf_Cv_16)) rfl (v := .ref (ad 19)) rfl d_Cv_begin_80 ?_
  refine lv_aload_n hx hb d_Cv_begin_83 rfl (lv_at hl 0 rfl) ?_
  refine wv_getf hx hb h 18 (by decide) (fs := [.ref (ad 19), .ref (ad 21), .ref (ad 22), .ref (ad 23), .ref (ad 24), .ref (ad 25), .ref (ad 26), .ref (ad 27), .ref (ad 28), .ref (ad 29), .ref (ad 30), .ref (ad 31), .ref (ad 32), .ref (ad 33)]) t7_18 hts (fun w hw => List.mem_cons_of_mem _ (fW_Cv w hw)) hown (ci := 0) (C := "NonceBox$Curve") (T := fT_Cv) (N := 14) rfl 6 (by decide) (hts _ (List.mem_cons_of_mem _ kf_Cv_43)) rfl (v := .ref (ad 26)) rfl d_Cv_begin_84 ?_
  refine lv_aload_n hx hb d_Cv_begin_87 rfl (lv_at hl 0 rfl) ?_
  refine wv_getf hx hb h 18 (by decide) (fs := [.ref (ad 19), .ref (ad 21), .ref (ad 22), .ref (ad 23), .ref (ad 24), .ref (ad 25), .ref (ad 26), .ref (ad 27), .ref (ad 28), .ref (ad 29), .ref (ad 30), .ref (ad 31), .ref (ad 32), .ref (ad 33)]) t7_18 hts (fun w hw => List.mem_cons_of_mem _ (fW_Cv w hw)) hown (ci := 0) (C := "NonceBox$Curve") (T := fT_Cv) (N := 14) rfl 4 (by decide) (hts _ (List.mem_cons_of_mem _ kf_Cv_37)) rfl (v := .ref (ad 24)) rfl d_Cv_begin_88 ?_
  refine wv_V (As := [.ref (ad 26), .ref (ad 24)]) (rest := []) (k := 2) ⟨hx, hb, hml, hown, hts⟩ h 19 (by decide) (C := "NonceBox$Field") t7_19 rfl (m_Fd_copy l G A ad ev7 19 20 10 21 19 608 (by decide) t7_19 (by decide) (by decide) 26 24 (uRow X) r24 (by decide) (by decide) t7_26 t7_24 (by decide) (by decide)) kc_Fd_copy kl_Cv_108 km_Fd_copy kv_Fd_copy ki_Fd (by decide +kernel) ⟨rfl, rfl, Nat.le_of_ble_eq_true rfl, Nat.le_of_ble_eq_true rfl⟩ hl.1 rfl rfl (Nat.le_of_ble_eq_true rfl) ⟨Nat.le_refl _, Nat.le_refl _⟩ d_Cv_begin_91 ?_
  intro ov ev8 H locs hp h
  rw [hp.1]
  refine W.eq (g2 := F0 m 94 ls []) rfl ?_
  have o8 : ev8 = (va_up ev7 24 (eJ G 10 (uRow X))) := hp.2
  have t8_24 : ev8 24 = eJ G 10 (uRow X) := by rw [o8, va_up_self]
  have t8_21 := (show ev8 21 = ev7 21 by rw [o8, va_up_ne _ _ (by decide)]).trans t7_21
  have t8_22 := (show ev8 22 = ev7 22 by rw [o8, va_up_ne _ _ (by decide)]).trans t7_22
  have t8_23 := (show ev8 23 = ev7 23 by rw [o8, va_up_ne _ _ (by decide)]).trans t7_23
  have t8_25 := (show ev8 25 = ev7 25 by rw [o8, va_up_ne _ _ (by decide)]).trans t7_25
  have t8_26 := (show ev8 26 = ev7 26 by rw [o8, va_up_ne _ _ (by decide)]).trans t7_26
  have t8_18 := (show ev8 18 = ev7 18 by rw [o8, va_up_ne _ _ (by decide)]).trans t7_18
  have t8_19 := (show ev8 19 = ev7 19 by rw [o8, va_up_ne _ _ (by decide)]).trans t7_19
  refine lv_aload_n hx hb d_Cv_begin_94 rfl (lv_at hl 0 rfl) ?_
  refine wv_getf hx hb h 18 (by decide) (fs := [.ref (ad 19), .ref (ad 21), .ref (ad 22), .ref (ad 23), .ref (ad 24), .ref (ad 25), .ref (ad 26), .ref (ad 27), .ref (ad 28), .ref (ad 29), .ref (ad 30), .ref (ad 31), .ref (ad 32), .ref (ad 33)]) t8_18 hts (fun w hw => List.mem_cons_of_mem _ (fW_Cv w hw)) hown (ci := 0) (C := "NonceBox$Curve") (T := fT_Cv) (N := 14) rfl 0 (by decide) (hts _ (List.mem_cons_of_mem _ kf_Cv_16)) rfl (v := .ref (ad 19)) rfl d_Cv_begin_95 ?_
  refine lv_aload_n hx hb d_Cv_begin_98 rfl (lv_at hl 0 rfl) ?_
  refine wv_getf hx hb h 18 (by decide) (fs := [.ref (ad 19), .ref (ad 21), .ref (ad 22), .ref (ad 23), .ref (ad 24), .ref (ad 25), .ref (ad 26), .ref (ad 27), .ref (ad 28), .ref (ad 29), .ref (ad 30), .ref (ad 31), .ref (ad 32), .ref (ad 33)]) t8_18 hts (fun w hw => List.mem_cons_of_mem _ (fW_Cv w hw)) hown (ci := 0) (C := "NonceBox$Curve") (T := fT_Cv) (N := 14) rfl 5 (by decide) (hts _ (List.mem_cons_of_mem _ kf_Cv_40)) rfl (v := .ref (ad 25)) rfl d_Cv_begin_99 ?_
  refine lv_iconst (v := nI (1)) hx hb d_Cv_begin_102 (by decide) ?_
  refine wv_V (As := [.ref (ad 25), .int (nI (1))]) (rest := []) (k := 2) ⟨hx, hb, hml, hown, hts⟩ h 19 (by decide) (C := "NonceBox$Field") t8_19 rfl (m_Fd_setTo l G A ad ev8 19 25 10 r25 (nI 1) (by decide) t8_25 (by decide) (by decide)) kc_Fd_setTo kl_Cv_100 km_Fd_setTo kv_Fd_setTo ki_Fd (by decide +kernel) ⟨rfl, rfl, Nat.le_of_ble_eq_true rfl, Nat.le_of_ble_eq_true rfl⟩ hl.1 rfl rfl (Nat.le_of_ble_eq_true rfl) ⟨Nat.le_refl _, Nat.le_refl _⟩ d_Cv_begin_103 ?_
  intro ov ev9 H locs hp h
  rw [hp.1]
  refine W.eq (g2 := F0 m 106 ls []) rfl ?_
  have o9 : ev9 = (va_up ev8 25 (eJ G 10 (rowV 1))) := hp.2
  have t9_25 : ev9 25 = eJ G 10 (rowV 1) := by rw [o9, va_up_self]
  have t9_21 := (show ev9 21 = ev8 21 by rw [o9, va_up_ne _ _ (by decide)]).trans t8_21
  have t9_22 := (show ev9 22 = ev8 22 by rw [o9, va_up_ne _ _ (by decide)]).trans t8_22
  have t9_23 := (show ev9 23 = ev8 23 by rw [o9, va_up_ne _ _ (by decide)]).trans t8_23
  have t9_24 := (show ev9 24 = ev8 24 by rw [o9, va_up_ne _ _ (by decide)]).trans t8_24
  have t9_26 := (show ev9 26 = ev8 26 by rw [o9, va_up_ne _ _ (by decide)]).trans t8_26
  have t9_18 := (show ev9 18 = ev8 18 by rw [o9, va_up_ne _ _ (by decide)]).trans t8_18
  have t9_19 := (show ev9 19 = ev8 19 by rw [o9, va_up_ne _ _ (by decide)]).trans t8_19
  refine wv_vret hx hb hr hlocks h d_Cv_begin_106 ⟨rfl, ?_⟩
  funext j
  by_cases c0 : j = 21
  · rw [c0, t9_21, va_up_ne _ _ (by decide), va_up_ne _ _ (by decide), va_up_ne _ _ (by decide), va_up_ne _ _ (by decide), va_up_ne _ _ (by decide), va_up_self]
  by_cases c1 : j = 26
  · rw [c1, t9_26, va_up_ne _ _ (by decide), va_up_ne _ _ (by decide), va_up_ne _ _ (by decide), va_up_ne _ _ (by decide), va_up_self]
  by_cases c2 : j = 22
  · rw [c2, t9_22, va_up_ne _ _ (by decide), va_up_ne _ _ (by decide), va_up_ne _ _ (by decide), va_up_self]
  by_cases c3 : j = 23
  · rw [c3, t9_23, va_up_ne _ _ (by decide), va_up_ne _ _ (by decide), va_up_self]
  by_cases c4 : j = 24
  · rw [c4, t9_24, va_up_ne _ _ (by decide), va_up_self]
  by_cases c5 : j = 25
  · rw [c5, t9_25, va_up_self]
  rw [va_up_ne _ _ c5, va_up_ne _ _ c4, va_up_ne _ _ c3, va_up_ne _ _ c2, va_up_ne _ _ c1, va_up_ne _ _ c0]
  rw [o9, va_up_ne _ _ c5, o8, va_up_ne _ _ c4, o7, va_up_ne _ _ c3, o6, va_up_ne _ _ c2, o5, va_up_ne _ _ c1, o4, va_up_ne _ _ c1, o3, va_up_ne _ _ c0, o2, va_up_ne _ _ c0, o1, va_up_ne _ _ c0]
end
section
theorem d_Cv_multipleInto_0 : decode c_Cv_multipleInto 0 = .ok (.aload_n 0, 1) := by decide +kernel
theorem d_Cv_multipleInto_1 : decode c_Cv_multipleInto 1 = .ok (.aload_n 2, 1) := by decide +kernel
theorem d_Cv_multipleInto_2 : decode c_Cv_multipleInto 2 = .ok (.invokevirtual 67, 3) := by decide +kernel
theorem d_Cv_multipleInto_5 : decode c_Cv_multipleInto 5 = .ok (.aload_n 0, 1) := by decide +kernel
theorem d_Cv_multipleInto_6 : decode c_Cv_multipleInto 6 = .ok (.aload_n 1, 1) := by decide +kernel
theorem d_Cv_multipleInto_7 : decode c_Cv_multipleInto 7 = .ok (.invokevirtual 71, 3) := by decide +kernel
theorem d_Cv_multipleInto_10 : decode c_Cv_multipleInto 10 = .ok (.sipush 254, 3) := by decide +kernel
theorem d_Cv_multipleInto_13 : decode c_Cv_multipleInto 13 = .ok (.istore 4, 2) := by decide +kernel
theorem d_Cv_multipleInto_15 : decode c_Cv_multipleInto 15 = .ok (.iload 4, 2) := by decide +kernel
theorem d_Cv_multipleInto_17 : decode c_Cv_multipleInto 17 = .ok (.ifCond .lt 74, 3) := by decide +kernel
theorem d_Cv_multipleInto_20 : decode c_Cv_multipleInto 20 = .ok (.aload_n 0, 1) := by decide +kernel
theorem d_Cv_multipleInto_21 : decode c_Cv_multipleInto 21 = .ok (.getfield 22, 3) := by decide +kernel
theorem d_Cv_multipleInto_24 : decode c_Cv_multipleInto 24 = .ok (.iload 4, 2) := by decide +kernel
theorem d_Cv_multipleInto_26 : decode c_Cv_multipleInto 26 = .ok (.bipush 8, 2) := by decide +kernel
theorem d_Cv_multipleInto_28 : decode c_Cv_multipleInto 28 = .ok (.idiv, 1) := by decide +kernel
theorem d_Cv_multipleInto_29 : decode c_Cv_multipleInto 29 = .ok (.baload, 1) := by decide +kernel
theorem d_Cv_multipleInto_30 : decode c_Cv_multipleInto 30 = .ok (.iload 4, 2) := by decide +kernel
theorem d_Cv_multipleInto_32 : decode c_Cv_multipleInto 32 = .ok (.bipush 8, 2) := by decide +kernel
theorem d_Cv_multipleInto_34 : decode c_Cv_multipleInto 34 = .ok (.irem, 1) := by decide +kernel
theorem d_Cv_multipleInto_35 : decode c_Cv_multipleInto 35 = .ok (.ishr, 1) := by decide +kernel
theorem d_Cv_multipleInto_36 : decode c_Cv_multipleInto 36 = .ok (.iconst 1, 1) := by decide +kernel
theorem d_Cv_multipleInto_37 : decode c_Cv_multipleInto 37 = .ok (.iand, 1) := by decide +kernel
theorem d_Cv_multipleInto_38 : decode c_Cv_multipleInto 38 = .ok (.iconst 1, 1) := by decide +kernel
theorem d_Cv_multipleInto_39 : decode c_Cv_multipleInto 39 = .ok (.if_icmp .ne 26, 3) := by decide +kernel
theorem d_Cv_multipleInto_42 : decode c_Cv_multipleInto 42 = .ok (.aload_n 0, 1) := by decide +kernel
theorem d_Cv_multipleInto_43 : decode c_Cv_multipleInto 43 = .ok (.aload_n 0, 1) := by decide +kernel
theorem d_Cv_multipleInto_44 : decode c_Cv_multipleInto 44 = .ok (.getfield 37, 3) := by decide +kernel
theorem d_Cv_multipleInto_47 : decode c_Cv_multipleInto 47 = .ok (.aload_n 0, 1) := by decide +kernel
theorem d_Cv_multipleInto_48 : decode c_Cv_multipleInto 48 = .ok (.getfield 40, 3) := by decide +kernel
theorem d_Cv_multipleInto_51 : decode c_Cv_multipleInto 51 = .ok (.aload_n 0, 1) := by decide +kernel
theorem d_Cv_multipleInto_52 : decode c_Cv_multipleInto 52 = .ok (.getfield 30, 3) := by decide +kernel
theorem d_Cv_multipleInto_55 : decode c_Cv_multipleInto 55 = .ok (.aload_n 0, 1) := by decide +kernel
theorem d_Cv_multipleInto_56 : decode c_Cv_multipleInto 56 = .ok (.getfield 34, 3) := by decide +kernel
theorem d_Cv_multipleInto_59 : decode c_Cv_multipleInto 59 = .ok (.invokevirtual 74, 3) := by decide +kernel
theorem d_Cv_multipleInto_62 : decode c_Cv_multipleInto 62 = .ok (.goto 23, 3) := by decide +kernel
theorem d_Cv_multipleInto_65 : decode c_Cv_multipleInto 65 = .ok (.aload_n 0, 1) := by decide +kernel
theorem d_Cv_multipleInto_66 : decode c_Cv_multipleInto 66 = .ok (.aload_n 0, 1) := by decide +kernel
theorem d_Cv_multipleInto_67 : decode c_Cv_multipleInto 67 = .ok (.getfield 30, 3) := by decide +kernel
theorem d_Cv_multipleInto_70 : decode c_Cv_multipleInto 70 = .ok (.aload_n 0, 1) := by decide +kernel
theorem d_Cv_multipleInto_71 : decode c_Cv_multipleInto 71 = .ok (.getfield 34, 3) := by decide +kernel
theorem d_Cv_multipleInto_74 : decode c_Cv_multipleInto 74 = .ok (.aload_n 0, 1) := by decide +kernel
theorem d_Cv_multipleInto_75 : decode c_Cv_multipleInto 75 = .ok (.getfield 37, 3) := by decide +kernel
theorem d_Cv_multipleInto_78 : decode c_Cv_multipleInto 78 = .ok (.aload_n 0, 1) := by decide +kernel
theorem d_Cv_multipleInto_79 : decode c_Cv_multipleInto 79 = .ok (.getfield 40, 3) := by decide +kernel
theorem d_Cv_multipleInto_82 : decode c_Cv_multipleInto 82 = .ok (.invokevirtual 74, 3) := by decide +kernel
theorem d_Cv_multipleInto_85 : decode c_Cv_multipleInto 85 = .ok (.iinc 4 (-1), 3) := by decide +kernel
theorem d_Cv_multipleInto_88 : decode c_Cv_multipleInto 88 = .ok (.goto (-73), 3) := by decide +kernel
theorem d_Cv_multipleInto_91 : decode c_Cv_multipleInto 91 = .ok (.aload_n 0, 1) := by decide +kernel
theorem d_Cv_multipleInto_92 : decode c_Cv_multipleInto 92 = .ok (.aload_n 0, 1) := by decide +kernel
theorem d_Cv_multipleInto_93 : decode c_Cv_multipleInto 93 = .ok (.getfield 34, 3) := by decide +kernel
theorem d_Cv_multipleInto_96 : decode c_Cv_multipleInto 96 = .ok (.aload_n 0, 1) := by decide +kernel
theorem d_Cv_multipleInto_97 : decode c_Cv_multipleInto 97 = .ok (.getfield 46, 3) := by decide +kernel
theorem d_Cv_multipleInto_100 : decode c_Cv_multipleInto 100 = .ok (.invokevirtual 78, 3) := by decide +kernel
theorem d_Cv_multipleInto_103 : decode c_Cv_multipleInto 103 = .ok (.aload_n 0, 1) := by decide +kernel
theorem d_Cv_multipleInto_104 : decode c_Cv_multipleInto 104 = .ok (.getfield 16, 3) := by decide +kernel
theorem d_Cv_multipleInto_107 : decode c_Cv_multipleInto 107 = .ok (.aload_n 0, 1) := by decide +kernel
theorem d_Cv_multipleInto_108 : decode c_Cv_multipleInto 108 = .ok (.getfield 30, 3) := by decide +kernel
theorem d_Cv_multipleInto_111 : decode c_Cv_multipleInto 111 = .ok (.aload_n 0, 1) := by decide +kernel
theorem d_Cv_multipleInto_112 : decode c_Cv_multipleInto 112 = .ok (.getfield 46, 3) := by decide +kernel
theorem d_Cv_multipleInto_115 : decode c_Cv_multipleInto 115 = .ok (.aload_n 0, 1) := by decide +kernel
theorem d_Cv_multipleInto_116 : decode c_Cv_multipleInto 116 = .ok (.getfield 46, 3) := by decide +kernel
theorem d_Cv_multipleInto_119 : decode c_Cv_multipleInto 119 = .ok (.invokevirtual 82, 3) := by decide +kernel
theorem d_Cv_multipleInto_122 : decode c_Cv_multipleInto 122 = .ok (.aload_n 0, 1) := by decide +kernel
theorem d_Cv_multipleInto_123 : decode c_Cv_multipleInto 123 = .ok (.getfield 16, 3) := by decide +kernel
theorem d_Cv_multipleInto_126 : decode c_Cv_multipleInto 126 = .ok (.aload_n 0, 1) := by decide +kernel
theorem d_Cv_multipleInto_127 : decode c_Cv_multipleInto 127 = .ok (.getfield 46, 3) := by decide +kernel
theorem d_Cv_multipleInto_130 : decode c_Cv_multipleInto 130 = .ok (.invokevirtual 86, 3) := by decide +kernel
theorem d_Cv_multipleInto_133 : decode c_Cv_multipleInto 133 = .ok (.aload_n 0, 1) := by decide +kernel
theorem d_Cv_multipleInto_134 : decode c_Cv_multipleInto 134 = .ok (.getfield 16, 3) := by decide +kernel
theorem d_Cv_multipleInto_137 : decode c_Cv_multipleInto 137 = .ok (.aload_n 0, 1) := by decide +kernel
theorem d_Cv_multipleInto_138 : decode c_Cv_multipleInto 138 = .ok (.getfield 46, 3) := by decide +kernel
theorem d_Cv_multipleInto_141 : decode c_Cv_multipleInto 141 = .ok (.aload_n 3, 1) := by decide +kernel
theorem d_Cv_multipleInto_142 : decode c_Cv_multipleInto 142 = .ok (.bipush 32, 2) := by decide +kernel
theorem d_Cv_multipleInto_144 : decode c_Cv_multipleInto 144 = .ok (.invokevirtual 90, 3) := by decide +kernel
theorem d_Cv_multipleInto_147 : decode c_Cv_multipleInto 147 = .ok (.return_, 1) := by decide +kernel
set_option maxRecDepth 100000 in
set_option maxHeartbeats 4000000 in
/-- MULTIPLE -/
theorem m_Cv_multipleInto (l : Launch) (G : wG) (A : Nat → Prop) (ad : Nat → Nat) (ev : Nat → va_E) (qt Nt : Nat) (K X T BY : Nat → Nat) (r20 r22 r23 r24 r25 r26 r27 r28 r29 r30 r31 r32 r33 : Row) (h18 : ev 18 = eO 0 [.ref (ad 19), .ref (ad 21), .ref (ad 22), .ref (ad 23), .ref (ad 24), .ref (ad 25), .ref (ad 26), .ref (ad 27), .ref (ad 28), .ref (ad 29), .ref (ad 30), .ref (ad 31), .ref (ad 32), .ref (ad 33)]) (h19 : ev 19 = eO 1 [.int (nI 10), .int (nI 21), .long 19, .long 608, .ref (ad 20)]) (hqt : qt < 52) (h1 : ev 1 = eB G 32 (bs K)) (h3 : ev 3 = eB G 32 (bs X)) (ht : ev qt = eB G Nt (bs T)) (hK : ∀ j, K j < 256) (hX : ∀ j, X j < 256) (nt : 32 ≤ Nt) (nt2 : Nt < 2 ^ 30) (tq : 33 < qt) (h20 : ev 20 = eJ G 20 r20) (h21 : ev 21 = eB G 32 (bs BY)) (h22 : ev 22 = eJ G 10 r22) (h23 : ev 23 = eJ G 10 r23) (h24 : ev 24 = eJ G 10 r24) (h25 : ev 25 = eJ G 10 r25) (h26 : ev 26 = eJ G 10 r26) (h27 : ev 27 = eJ G 10 r27) (h28 : ev 28 = eJ G 10 r28) (h29 : ev 29 = eJ G 10 r29) (h30 : ev 30 = eJ G 10 r30) (h31 : ev 31 = eJ G 10 r31) (h32 : ev 32 = eJ G 10 r32) (h33 : ev 33 = eJ G 10 r33) : wM l y_Cv_multipleInto w_Cv_multipleInto ({ frames := 18, cells := 0, slots := 0, locals := 600 }) G A 52 ad ev [.ref (ad 18), .ref (ad 1), .ref (ad 3), .ref (ad qt)] (fun ov ev' => ∃ (Wd s22 s23 s24 s25 s26 s27 s28 s29 s30 s31 s32 s33 : Row), ov = none ∧ ev' = (va_up (va_up (va_up (va_up (va_up (va_up (va_up (va_up (va_up (va_up (va_up (va_up (va_up (va_up (va_up ev 20 (eJ G 20 Wd)) 21 (eB G 32 (bs (KEYB K)))) 22 (eJ G 10 s22)) 23 (eJ G 10 s23)) 24 (eJ G 10 s24)) 25 (eJ G 10 s25)) 26 (eJ G 10 s26)) 27 (eJ G 10 s27)) 28 (eJ G 10 s28)) 29 (eJ G 10 s29)) 30 (eJ G 10 s30)) 31 (eJ G 10 s31)) 32 (eJ G 10 s32)) 33 (eJ G 10 s33)) qt (eB G Nt (bs (fil 0 32 (MULB K X) T))))) := by
  refine wv_ofW (cc := c_Cv_multipleInto) (maxL := 5) (ret := none) (by decide) rfl (Nat.le_of_ble_eq_true rfl) ?_
  intro p e s m below meth c ls hx hb hr hml hts hown hlocks hini h hl
  have hl : lv_has ls 5 [(0, .ref (ad 18)), (1, .ref (ad 1)), (2, .ref (ad 3)), (3, .ref (ad qt))] := hl
  refine lv_aload_n hx hb d_Cv_multipleInto_0 rfl (lv_at hl 0 rfl) ?_
  refine lv_aload_n hx hb d_Cv_multipleInto_1 rfl (lv_at hl 2 rfl) ?_
  refine wv_V (As := [.ref (ad 3)]) (rest := []) (k := 1) ⟨hx, hb, hml, hown, hts⟩ h 18 (by decide) (C := "NonceBox$Curve") h18 rfl (m_Cv_begin l G A ad ev 3 32 X BY r22 r23 r24 r25 r26 h18 h19 (by decide) h3 hX h21 h22 h23 h24 h25 h26 (by decide) (by decide) (by decide)) kc_Cv_begin kl_Cv_67 km_Cv_begin kv_Cv_begin ki_Cv (by decide +kernel) ⟨rfl, rfl, Nat.le_of_ble_eq_true rfl, Nat.le_of_ble_eq_true rfl⟩ hl.1 rfl rfl (Nat.le_of_ble_eq_true rfl) ⟨Nat.le_refl _, Nat.le_refl _⟩ d_Cv_multipleInto_2 ?_
  intro ov ev1 H locs hp h
  rw [hp.1]
  refine W.eq (g2 := F0 m 5 ls []) rfl ?_
  have o1 : ev1 = (va_up (va_up (va_up (va_up (va_up (va_up ev 21 (eB G 32 (bs (PNTB X)))) 26 (eJ G 10 (uRow X))) 22 (eJ G 10 (rowV 1))) 23 (eJ G 10 (rowV 0))) 24 (eJ G 10 (uRow X))) 25 (eJ G 10 (rowV 1))) := hp.2
  have t1_21 : ev1 21 = eB G 32 (bs (PNTB X)) := by rw [o1, va_up_ne _ _ (by decide), va_up_ne _ _ (by decide), va_up_ne _ _ (by decide), va_up_ne _ _ (by decide), va_up_ne _ _ (by decide), va_up_self]
  have t1_26 : ev1 26 = eJ G 10 (uRow X) := by rw [o1, va_up_ne _ _ (by decide), va_up_ne _ _ (by decide), va_up_ne _ _ (by decide), va_up_ne _ _ (by decide), va_up_self]
  have t1_22 : ev1 22 = eJ G 10 (rowV 1) := by rw [o1, va_up_ne _ _ (by decide), va_up_ne _ _ (by decide), va_up_ne _ _ (by decide), va_up_self]
  have t1_23 : ev1 23 = eJ G 10 (rowV 0) := by rw [o1, va_up_ne _ _ (by decide), va_up_ne _ _ (by decide), va_up_self]
  have t1_24 : ev1 24 = eJ G 10 (uRow X) := by rw [o1, va_up_ne _ _ (by decide), va_up_self]
  have t1_25 : ev1 25 = eJ G 10 (rowV 1) := by rw [o1, va_up_self]
  have t1_1 := (show ev1 1 = ev 1 by rw [o1, va_up_ne _ _ (by decide), va_up_ne _ _ (by decide), va_up_ne _ _ (by decide), va_up_ne _ _ (by decide), va_up_ne _ _ (by decide), va_up_ne _ _ (by decide)]).trans h1
  have t1_3 := (show ev1 3 = ev 3 by rw [o1, va_up_ne _ _ (by decide), va_up_ne _ _ (by decide), va_up_ne _ _ (by decide), va_up_ne _ _ (by decide), va_up_ne _ _ (by decide), va_up_ne _ _ (by decide)]).trans h3
  have t1_qt := (show ev1 qt = ev qt by rw [o1, va_up_ne _ _ (by omega), va_up_ne _ _ (by omega), va_up_ne _ _ (by omega), va_up_ne _ _ (by omega), va_up_ne _ _ (by omega), va_up_ne _ _ (by omega)]).trans ht
  have t1_20 := (show ev1 20 = ev 20 by rw [o1, va_up_ne _ _ (by decide), va_up_ne _ _ (by decide), va_up_ne _ _ (by decide), va_up_ne _ _ (by decide), va_up_ne _ _ (by decide), va_up_ne _ _ (by decide)]).trans h20
  have t1_27 := (show ev1 27 = ev 27 by rw [o1, va_up_ne _ _ (by decide), va_up_ne _ _ (by decide), va_up_ne _ _ (by decide), va_up_ne _ _ (by decide), va_up_ne _ _ (by decide), va_up_ne _ _ (by decide)]).trans h27
  have t1_28 := (show ev1 28 = ev 28 by rw [o1, va_up_ne _ _ (by decide), va_up_ne _ _ (by decide), va_up_ne _ _ (by decide), va_up_ne _ _ (by decide), va_up_ne _ _ (by decide), va_up_ne _ _ (by decide)]).trans h28
  have t1_29 := (show ev1 29 = ev 29 by rw [o1, va_up_ne _ _ (by decide), va_up_ne _ _ (by decide), va_up_ne _ _ (by decide), va_up_ne _ _ (by decide), va_up_ne _ _ (by decide), va_up_ne _ _ (by decide)]).trans h29
  have t1_30 := (show ev1 30 = ev 30 by rw [o1, va_up_ne _ _ (by decide), va_up_ne _ _ (by decide), va_up_ne _ _ (by decide), va_up_ne _ _ (by decide), va_up_ne _ _ (by decide), va_up_ne _ _ (by decide)]).trans h30
  have t1_31 := (show ev1 31 = ev 31 by rw [o1, va_up_ne _ _ (by decide), va_up_ne _ _ (by decide), va_up_ne _ _ (by decide), va_up_ne _ _ (by decide), va_up_ne _ _ (by decide), va_up_ne _ _ (by decide)]).trans h31
  have t1_32 := (show ev1 32 = ev 32 by rw [o1, va_up_ne _ _ (by decide), va_up_ne _ _ (by decide), va_up_ne _ _ (by decide), va_up_ne _ _ (by decide), va_up_ne _ _ (by decide), va_up_ne _ _ (by decide)]).trans h32
  have t1_33 := (show ev1 33 = ev 33 by rw [o1, va_up_ne _ _ (by decide), va_up_ne _ _ (by decide), va_up_ne _ _ (by decide), va_up_ne _ _ (by decide), va_up_ne _ _ (by decide), va_up_ne _ _ (by decide)]).trans h33
  have t1_18 := (show ev1 18 = ev 18 by rw [o1, va_up_ne _ _ (by decide), va_up_ne _ _ (by decide), va_up_ne _ _ (by decide), va_up_ne _ _ (by decide), va_up_ne _ _ (by decide), va_up_ne _ _ (by decide)]).trans h18
  have t1_19 := (show ev1 19 = ev 19 by rw [o1, va_up_ne _ _ (by decide), va_up_ne _ _ (by decide), va_up_ne _ _ (by decide), va_up_ne _ _ (by decide), va_up_ne _ _ (by decide), va_up_ne _ _ (by decide)]).trans h19
  refine lv_aload_n hx hb d_Cv_multipleInto_5 rfl (lv_at hl 0 rfl) ?_
  refine lv_aload_n hx hb d_Cv_multipleInto_6 rfl (lv_at hl 1 rfl) ?_
  refine wv_V (As := [.ref (ad 1)]) (rest := []) (k := 1) ⟨hx, hb, hml, hown, hts⟩ h 18 (by decide) (C := "NonceBox$Curve") t1_18 rfl (m_Cv_readKey l G A ad ev1 1 32 K (PNTB X) t1_18 (by decide) t1_1 hK t1_21 (by decide) (by decide) (by decide)) kc_Cv_readKey kl_Cv_71 km_Cv_readKey kv_Cv_readKey ki_Cv (by decide +kernel) ⟨rfl, rfl, Nat.le_of_ble_eq_true rfl, Nat.le_of_ble_eq_true rfl⟩ hl.1 rfl rfl (Nat.le_of_ble_eq_true rfl) ⟨Nat.le_refl _, Nat.le_refl _⟩ d_Cv_multipleInto_7 ?_
  intro ov ev2 H locs hp h
  rw [hp.1]
  refine W.eq (g2 := F0 m 10 ls []) rfl ?_
  have o2 : ev2 = (va_up ev1 21 (eB G 32 (bs (KEYB K)))) := hp.2
  have t2_21 : ev2 21 = eB G 32 (bs (KEYB K)) := by rw [o2, va_up_self]
  have t2_1 := (show ev2 1 = ev1 1 by rw [o2, va_up_ne _ _ (by decide)]).trans t1_1
  have t2_3 := (show ev2 3 = ev1 3 by rw [o2, va_up_ne _ _ (by decide)]).trans t1_3
  have t2_qt := (show ev2 qt = ev1 qt by rw [o2, va_up_ne _ _ (by omega)]).trans t1_qt
  have t2_20 := (show ev2 20 = ev1 20 by rw [o2, va_up_ne _ _ (by decide)]).trans t1_20
  have t2_22 := (show ev2 22 = ev1 22 by rw [o2, va_up_ne _ _ (by decide)]).trans t1_22
  have t2_23 := (show ev2 23 = ev1 23 by rw [o2, va_up_ne _ _ (by decide)]).trans t1_23
  have t2_24 := (show ev2 24 = ev1 24 by rw [o2, va_up_ne _ _ (by decide)]).trans t1_24
  have t2_25 := (show ev2 25 = ev1 25 by rw [o2, va_up_ne _ _ (by decide)]).trans t1_25
  have t2_26 := (show ev2 26 = ev1 26 by rw [o2, va_up_ne _ _ (by decide)]).trans t1_26
  have t2_27 := (show ev2 27 = ev1 27 by rw [o2, va_up_ne _ _ (by decide)]).trans t1_27
  have t2_28 := (show ev2 28 = ev1 28 by rw [o2, va_up_ne _ _ (by decide)]).trans t1_28
  have t2_29 := (show ev2 29 = ev1 29 by rw [o2, va_up_ne _ _ (by decide)]).trans t1_29
  have t2_30 := (show ev2 30 = ev1 30 by rw [o2, va_up_ne _ _ (by decide)]).trans t1_30
  have t2_31 := (show ev2 31 = ev1 31 by rw [o2, va_up_ne _ _ (by decide)]).trans t1_31
  have t2_32 := (show ev2 32 = ev1 32 by rw [o2, va_up_ne _ _ (by decide)]).trans t1_32
  have t2_33 := (show ev2 33 = ev1 33 by rw [o2, va_up_ne _ _ (by decide)]).trans t1_33
  have t2_18 := (show ev2 18 = ev1 18 by rw [o2, va_up_ne _ _ (by decide)]).trans t1_18
  have t2_19 := (show ev2 19 = ev1 19 by rw [o2, va_up_ne _ _ (by decide)]).trans t1_19
  refine lv_sipush (v := nI (254)) hx hb d_Cv_multipleInto_10 (by decide) ?_
  refine lv_istore (lv' := [(4, .int (nI (254))), (0, .ref (ad 18)), (1, .ref (ad 1)), (2, .ref (ad 3)), (3, .ref (ad qt))]) hx hb d_Cv_multipleInto_13 hl (by decide) rfl (fun ls hl => ?_)
  rw [show nI 254 = dn 255 from rfl] at hl
  have loop3 : ∀ (d k : Nat), k + d = 255 → ∀ (Wd s27 s28 s29 s30 s31 s32 s33 : Row),  ∀ (ev3 : Nat → va_E) (H : Heap) (locs : List Loc) (ls : Array Slot), ev3 = (va_up (va_up (va_up (va_up (va_up (va_up (va_up (va_up (va_up (va_up (va_up (va_up ev2 20 (eJ G 20 Wd)) 27 (eJ G 10 s27)) 28 (eJ G 10 s28)) 29 (eJ G 10 s29)) 30 (eJ G 10 s30)) 31 (eJ G 10 s31)) 32 (eJ G 10 s32)) 33 (eJ G 10 s33)) 22 (eJ G 10 (lad (uRow X) (KEYB K) k).1)) 23 (eJ G 10 (lad (uRow X) (KEYB K) k).2.1)) 24 (eJ G 10 (lad (uRow X) (KEYB K) k).2.2.1)) 25 (eJ G 10 (lad (uRow X) (KEYB K) k).2.2.2)) → wT G A 52 ad ev3 s H locs → lv_has ls 5 [(4, .int (dn d)), (0, .ref (ad 18)), (1, .ref (ad 1)), (2, .ref (ad 3)), (3, .ref (ad qt))] → W p l e ({ frames := 18, cells := 0, slots := 0, locals := 600 }) s m ([.ref (ad 18), .ref (ad 1), .ref (ad 3), .ref (ad qt)] : List Value).toArray below meth c H locs 0 0 (MQ below (wQc G A 52 ad (fun ov ev' => ∃ (Wd s22 s23 s24 s25 s26 s27 s28 s29 s30 s31 s32 s33 : Row), ov = none ∧ ev' = (va_up (va_up (va_up (va_up (va_up (va_up (va_up (va_up (va_up (va_up (va_up (va_up (va_up (va_up (va_up ev 20 (eJ G 20 Wd)) 21 (eB G 32 (bs (KEYB K)))) 22 (eJ G 10 s22)) 23 (eJ G 10 s23)) 24 (eJ G 10 s24)) 25 (eJ G 10 s25)) 26 (eJ G 10 s26)) 27 (eJ G 10 s27)) 28 (eJ G 10 s28)) 29 (eJ G 10 s29)) 30 (eJ G 10 s30)) 31 (eJ G 10 s31)) 32 (eJ G 10 s32)) 33 (eJ G 10 s33)) qt (eB G Nt (bs (fil 0 32 (MULB K X) T)))))) ([.ref (ad 18), .ref (ad 1), .ref (ad 3), .ref (ad qt)] : List Value).toArray s 0 0 A) (F0 m 15 ls []) := by
    intro d
    induction d with
    | zero =>
      intro k hk_k Wd s27 s28 s29 s30 s31 s32 s33 ev3 H locs ls  o3 h hl
      have hl : lv_has ls 5 [(4, .int ((-1 : Int32))), (0, .ref (ad 18)), (1, .ref (ad 1)), (2, .ref (ad 3)), (3, .ref (ad qt))] := hl
      have t3_20 : ev3 20 = eJ G 20 Wd := by rw [o3, va_up_ne _ _ (by decide), va_up_ne _ _ (by decide), va_up_ne _ _ (by decide), va_up_ne _ _ (by decide), va_up_ne _ _ (by decide), va_up_ne _ _ (by decide), va_up_ne _ _ (by decide), va_up_ne _ _ (by decide), va_up_ne _ _ (by decide), va_up_ne _ _ (by decide), va_up_ne _ _ (by decide), va_up_self]
      have t3_27 : ev3 27 = eJ G 10 s27 := by rw [o3, va_up_ne _ _ (by decide), va_up_ne _ _ (by decide), va_up_ne _ _ (by decide), va_up_ne _ _ (by decide), va_up_ne _ _ (by decide), va_up_ne _ _ (by decide), va_up_ne _ _ (by decide), va_up_ne _ _ (by decide), va_up_ne _ _ (by decide), va_up_ne _ _ (by decide), va_up_self]
      have t3_28 : ev3 28 = eJ G 10 s28 := by rw [o3, va_up_ne _ _ (by decide), va_up_ne _ _ (by decide), va_up_ne _ _ (by decide), va_up_ne _ _ (by decide), va_up_ne _ _ (by decide), va_up_ne _ _ (by decide), va_up_ne _ _ (by decide), va_up_ne _ _ (by decide), va_up_ne _ _ (by decide), va_up_self]
      have t3_29 : ev3 29 = eJ G 10 s29 := by rw [o3, va_up_ne _ _ (by decide), va_up_ne _ _ (by decide), va_up_ne _ _ (by decide), va_up_ne _ _ (by decide), va_up_ne _ _ (by decide), va_up_ne _ _ (by decide), va_up_ne _ _ (by decide), va_up_ne _ _ (by decide), va_up_self]
      have t3_30 : ev3 30 = eJ G 10 s30 := by rw [o3, va_up_ne _ _ (by decide), va_up_ne _ _ (by decide), va_up_ne _ _ (by decide), va_up_ne _ _ (by decide), va_up_ne _ _ (by decide), va_up_ne _ _ (by decide), va_up_ne _ _ (by decide), va_up_self]
      have t3_31 : ev3 31 = eJ G 10 s31 := by rw [o3, va_up_ne _ _ (by decide), va_up_ne _ _ (by decide), va_up_ne _ _ (by decide), va_up_ne _ _ (by decide), va_up_ne _ _ (by decide), va_up_ne _ _ (by decide), va_up_self]
      have t3_32 : ev3 32 = eJ G 10 s32 := by rw [o3, va_up_ne _ _ (by decide), va_up_ne _ _ (by decide), va_up_ne _ _ (by decide), va_up_ne _ _ (by decide), va_up_ne _ _ (by decide), va_up_self]
      have t3_33 : ev3 33 = eJ G 10 s33 := by rw [o3, va_up_ne _ _ (by decide), va_up_ne _ _ (by decide), va_up_ne _ _ (by decide), va_up_ne _ _ (by decide), va_up_self]
      have t3_22 : ev3 22 = eJ G 10 (lad (uRow X) (KEYB K) k).1 := by rw [o3, va_up_ne _ _ (by decide), va_up_ne _ _ (by decide), va_up_ne _ _ (by decide), va_up_self]
      have t3_23 : ev3 23 = eJ G 10 (lad (uRow X) (KEYB K) k).2.1 := by rw [o3, va_up_ne _ _ (by decide), va_up_ne _ _ (by decide), va_up_self]
      have t3_24 : ev3 24 = eJ G 10 (lad (uRow X) (KEYB K) k).2.2.1 := by rw [o3, va_up_ne _ _ (by decide), va_up_self]
      have t3_25 : ev3 25 = eJ G 10 (lad (uRow X) (KEYB K) k).2.2.2 := by rw [o3, va_up_self]
      have t3_1 := (show ev3 1 = ev2 1 by rw [o3, va_up_ne _ _ (by decide), va_up_ne _ _ (by decide), va_up_ne _ _ (by decide), va_up_ne _ _ (by decide), va_up_ne _ _ (by decide), va_up_ne _ _ (by decide), va_up_ne _ _ (by decide), va_up_ne _ _ (by decide), va_up_ne _ _ (by decide), va_up_ne _ _ (by decide), va_up_ne _ _ (by decide), va_up_ne _ _ (by decide)]).trans t2_1
      have t3_3 := (show ev3 3 = ev2 3 by rw [o3, va_up_ne _ _ (by decide), va_up_ne _ _ (by decide), va_up_ne _ _ (by decide), va_up_ne _ _ (by decide), va_up_ne _ _ (by decide), va_up_ne _ _ (by decide), va_up_ne _ _ (by decide), va_up_ne _ _ (by decide), va_up_ne _ _ (by decide), va_up_ne _ _ (by decide), va_up_ne _ _ (by decide), va_up_ne _ _ (by decide)]).trans t2_3
      have t3_qt := (show ev3 qt = ev2 qt by rw [o3, va_up_ne _ _ (by omega), va_up_ne _ _ (by omega), va_up_ne _ _ (by omega), va_up_ne _ _ (by omega), va_up_ne _ _ (by omega), va_up_ne _ _ (by omega), va_up_ne _ _ (by omega), va_up_ne _ _ (by omega), va_up_ne _ _ (by omega), va_up_ne _ _ (by omega), va_up_ne _ _ (by omega), va_up_ne _ _ (by omega)]).trans t2_qt
      have t3_21 := (show ev3 21 = ev2 21 by rw [o3, va_up_ne _ _ (by decide), va_up_ne _ _ (by decide), va_up_ne _ _ (by decide), va_up_ne _ _ (by decide), va_up_ne _ _ (by decide), va_up_ne _ _ (by decide), va_up_ne _ _ (by decide), va_up_ne _ _ (by decide), va_up_ne _ _ (by decide), va_up_ne _ _ (by decide), va_up_ne _ _ (by decide), va_up_ne _ _ (by decide)]).trans t2_21
      have t3_26 := (show ev3 26 = ev2 26 by rw [o3, va_up_ne _ _ (by decide), va_up_ne _ _ (by decide), va_up_ne _ _ (by decide), va_up_ne _ _ (by decide), va_up_ne _ _ (by decide), va_up_ne _ _ (by decide), va_up_ne _ _ (by decide), va_up_ne _ _ (by decide), va_up_ne _ _ (by decide), va_up_ne _ _ (by decide), va_up_ne _ _ (by decide), va_up_ne _ _ (by decide)]).trans t2_26
      have t3_18 := (show ev3 18 = ev2 18 by rw [o3, va_up_ne _ _ (by decide), va_up_ne _ _ (by decide), va_up_ne _ _ (by decide), va_up_ne _ _ (by decide), va_up_ne _ _ (by decide), va_up_ne _ _ (by decide), va_up_ne _ _ (by decide), va_up_ne _ _ (by decide), va_up_ne _ _ (by decide), va_up_ne _ _ (by decide), va_up_ne _ _ (by decide), va_up_ne _ _ (by decide)]).trans t2_18
      have t3_19 := (show ev3 19 = ev2 19 by rw [o3, va_up_ne _ _ (by decide), va_up_ne _ _ (by decide), va_up_ne _ _ (by decide), va_up_ne _ _ (by decide), va_up_ne _ _ (by decide), va_up_ne _ _ (by decide), va_up_ne _ _ (by decide), va_up_ne _ _ (by decide), va_up_ne _ _ (by decide), va_up_ne _ _ (by decide), va_up_ne _ _ (by decide), va_up_ne _ _ (by decide)]).trans t2_19
      refine lv_iload hx hb d_Cv_multipleInto_15 (lv_at hl 0 rfl) ?_
      refine lv_if_lt (tgt := 91) hx hb d_Cv_multipleInto_17 (by decide) (fun _ => ?_) (fun hc => absurd (by decide) hc)
      obtain rfl : k = 255 := by omega
      refine lv_aload_n hx hb d_Cv_multipleInto_91 rfl (lv_at hl 1 rfl) ?_
      refine lv_aload_n hx hb d_Cv_multipleInto_92 rfl (lv_at hl 1 rfl) ?_
      refine wv_getf hx hb h 18 (by decide) (fs := [.ref (ad 19), .ref (ad 21), .ref (ad 22), .ref (ad 23), .ref (ad 24), .ref (ad 25), .ref (ad 26), .ref (ad 27), .ref (ad 28), .ref (ad 29), .ref (ad 30), .ref (ad 31), .ref (ad 32), .ref (ad 33)]) t3_18 hts (fun w hw => List.mem_cons_of_mem _ (fW_Cv w hw)) hown (ci := 0) (C := "NonceBox$Curve") (T := fT_Cv) (N := 14) rfl 3 (by decide) (hts _ (List.mem_cons_of_mem _ kf_Cv_34)) rfl (v := .ref (ad 23)) rfl d_Cv_multipleInto_93 ?_
      refine lv_aload_n hx hb d_Cv_multipleInto_96 rfl (lv_at hl 1 rfl) ?_
      refine wv_getf hx hb h 18 (by decide) (fs := [.ref (ad 19), .ref (ad 21), .ref (ad 22), .ref (ad 23), .ref (ad 24), .ref (ad 25), .ref (ad 26), .ref (ad 27), .ref (ad 28), .ref (ad 29), .ref (ad 30), .ref (ad 31), .ref (ad 32), .ref (ad 33)]) t3_18 hts (fun w hw => List.mem_cons_of_mem _ (fW_Cv w hw)) hown (ci := 0) (C := "NonceBox$Curve") (T := fT_Cv) (N := 14) rfl 7 (by decide) (hts _ (List.mem_cons_of_mem _ kf_Cv_46)) rfl (v := .ref (ad 27)) rfl d_Cv_multipleInto_97 ?_
      refine wv_V (As := [.ref (ad 23), .ref (ad 27)]) (rest := []) (k := 2) ⟨hx, hb, hml, hown, hts⟩ h 18 (by decide) (C := "NonceBox$Curve") t3_18 rfl (m_Cv_invert l G A ad ev3 (lad (uRow X) (KEYB K) 255).2.1 s27 Wd t3_18 t3_19 t3_20 t3_23 t3_27) kc_Cv_invert kl_Cv_78 km_Cv_invert kv_Cv_invert ki_Cv (by decide +kernel) ⟨rfl, rfl, Nat.le_of_ble_eq_true rfl, Nat.le_of_ble_eq_true rfl⟩ hl.1 rfl rfl (Nat.le_of_ble_eq_true rfl) ⟨Nat.le_refl _, Nat.le_refl _⟩ d_Cv_multipleInto_100 ?_
      intro ov ev4 H locs hp h
      obtain ⟨W2, hp⟩ := hp
      rw [hp.1]
      refine W.eq (g2 := F0 m 103 ls []) rfl ?_
      have o4 : ev4 = (va_up (va_up ev3 20 (eJ G 20 W2)) 27 (eJ G 10 (ivS (lad (uRow X) (KEYB K) 255).2.1 254))) := hp.2
      have t4_20 : ev4 20 = eJ G 20 W2 := by rw [o4, va_up_ne _ _ (by decide), va_up_self]
      have t4_27 : ev4 27 = eJ G 10 (ivS (lad (uRow X) (KEYB K) 255).2.1 254) := by rw [o4, va_up_self]
      have t4_1 := (show ev4 1 = ev3 1 by rw [o4, va_up_ne _ _ (by decide), va_up_ne _ _ (by decide)]).trans t3_1
      have t4_3 := (show ev4 3 = ev3 3 by rw [o4, va_up_ne _ _ (by decide), va_up_ne _ _ (by decide)]).trans t3_3
      have t4_qt := (show ev4 qt = ev3 qt by rw [o4, va_up_ne _ _ (by omega), va_up_ne _ _ (by omega)]).trans t3_qt
      have t4_21 := (show ev4 21 = ev3 21 by rw [o4, va_up_ne _ _ (by decide), va_up_ne _ _ (by decide)]).trans t3_21
      have t4_22 := (show ev4 22 = ev3 22 by rw [o4, va_up_ne _ _ (by decide), va_up_ne _ _ (by decide)]).trans t3_22
      have t4_23 := (show ev4 23 = ev3 23 by rw [o4, va_up_ne _ _ (by decide), va_up_ne _ _ (by decide)]).trans t3_23
      have t4_24 := (show ev4 24 = ev3 24 by rw [o4, va_up_ne _ _ (by decide), va_up_ne _ _ (by decide)]).trans t3_24
      have t4_25 := (show ev4 25 = ev3 25 by rw [o4, va_up_ne _ _ (by decide), va_up_ne _ _ (by decide)]).trans t3_25
      have t4_26 := (show ev4 26 = ev3 26 by rw [o4, va_up_ne _ _ (by decide), va_up_ne _ _ (by decide)]).trans t3_26
      have t4_28 := (show ev4 28 = ev3 28 by rw [o4, va_up_ne _ _ (by decide), va_up_ne _ _ (by decide)]).trans t3_28
      have t4_29 := (show ev4 29 = ev3 29 by rw [o4, va_up_ne _ _ (by decide), va_up_ne _ _ (by decide)]).trans t3_29
      have t4_30 := (show ev4 30 = ev3 30 by rw [o4, va_up_ne _ _ (by decide), va_up_ne _ _ (by decide)]).trans t3_30
      have t4_31 := (show ev4 31 = ev3 31 by rw [o4, va_up_ne _ _ (by decide), va_up_ne _ _ (by decide)]).trans t3_31
      have t4_32 := (show ev4 32 = ev3 32 by rw [o4, va_up_ne _ _ (by decide), va_up_ne _ _ (by decide)]).trans t3_32
      have t4_33 := (show ev4 33 = ev3 33 by rw [o4, va_up_ne _ _ (by decide), va_up_ne _ _ (by decide)]).trans t3_33
      have t4_18 := (show ev4 18 = ev3 18 by rw [o4, va_up_ne _ _ (by decide), va_up_ne _ _ (by decide)]).trans t3_18
      have t4_19 := (show ev4 19 = ev3 19 by rw [o4, va_up_ne _ _ (by decide), va_up_ne _ _ (by decide)]).trans t3_19
      refine lv_aload_n hx hb d_Cv_multipleInto_103 rfl (lv_at hl 1 rfl) ?_
      refine wv_getf hx hb h 18 (by decide) (fs := [.ref (ad 19), .ref (ad 21), .ref (ad 22), .ref (ad 23), .ref (ad 24), .ref (ad 25), .ref (ad 26), .ref (ad 27), .ref (ad 28), .ref (ad 29), .ref (ad 30), .ref (ad 31), .ref (ad 32), .ref (ad 33)]) t4_18 hts (fun w hw => List.mem_cons_of_mem _ (fW_Cv w hw)) hown (ci := 0) (C := "NonceBox$Curve") (T := fT_Cv) (N := 14) rfl 0 (by decide) (hts _ (List.mem_cons_of_mem _ kf_Cv_16)) rfl (v := .ref (ad 19)) rfl d_Cv_multipleInto_104 ?_
      refine lv_aload_n hx hb d_Cv_multipleInto_107 rfl (lv_at hl 1 rfl) ?_
      refine wv_getf hx hb h 18 (by decide) (fs := [.ref (ad 19), .ref (ad 21), .ref (ad 22), .ref (ad 23), .ref (ad 24), .ref (ad 25), .ref (ad 26), .ref (ad 27), .ref (ad 28), .ref (ad 29), .ref (ad 30), .ref (ad 31), .ref (ad 32), .ref (ad 33)]) t4_18 hts (fun w hw => List.mem_cons_of_mem _ (fW_Cv w hw)) hown (ci := 0) (C := "NonceBox$Curve") (T := fT_Cv) (N := 14) rfl 2 (by decide) (hts _ (List.mem_cons_of_mem _ kf_Cv_30)) rfl (v := .ref (ad 22)) rfl d_Cv_multipleInto_108 ?_
      refine lv_aload_n hx hb d_Cv_multipleInto_111 rfl (lv_at hl 1 rfl) ?_
      refine wv_getf hx hb h 18 (by decide) (fs := [.ref (ad 19), .ref (ad 21), .ref (ad 22), .ref (ad 23), .ref (ad 24), .ref (ad 25), .ref (ad 26), .ref (ad 27), .ref (ad 28), .ref (ad 29), .ref (ad 30), .ref (ad 31), .ref (ad 32), .ref (ad 33)]) t4_18 hts (fun w hw => List.mem_cons_of_mem _ (fW_Cv w hw)) hown (ci := 0) (C := "NonceBox$Curve") (T := fT_Cv) (N := 14) rfl 7 (by decide) (hts _ (List.mem_cons_of_mem _ kf_Cv_46)) rfl (v := .ref (ad 27)) rfl d_Cv_multipleInto_112 ?_
      refine lv_aload_n hx hb d_Cv_multipleInto_115 rfl (lv_at hl 1 rfl) ?_
      refine wv_getf hx hb h 18 (by decide) (fs := [.ref (ad 19), .ref (ad 21), .ref (ad 22), .ref (ad 23), .ref (ad 24), .ref (ad 25), .ref (ad 26), .ref (ad 27), .ref (ad 28), .ref (ad 29), .ref (ad 30), .ref (ad 31), .ref (ad 32), .ref (ad 33)]) t4_18 hts (fun w hw => List.mem_cons_of_mem _ (fW_Cv w hw)) hown (ci := 0) (C := "NonceBox$Curve") (T := fT_Cv) (N := 14) rfl 7 (by decide) (hts _ (List.mem_cons_of_mem _ kf_Cv_46)) rfl (v := .ref (ad 27)) rfl d_Cv_multipleInto_116 ?_
      refine wv_V (As := [.ref (ad 22), .ref (ad 27), .ref (ad 27)]) (rest := []) (k := 3) ⟨hx, hb, hml, hown, hts⟩ h 19 (by decide) (C := "NonceBox$Field") t4_19 rfl (m_Fd_times l G A ad ev4 19 20 10 21 19 608 (by decide) t4_19 (by decide) (by decide) 22 27 27 (lad (uRow X) (KEYB K) 255).1 (ivS (lad (uRow X) (KEYB K) 255).2.1 254) (ivS (lad (uRow X) (KEYB K) 255).2.1 254) W2 (by decide) (by decide) (by decide) (by decide) t4_22 t4_27 t4_27 t4_20 (by decide) (by decide) (by decide) (by decide) (by decide)) kc_Fd_times kl_Cv_82 km_Fd_times kv_Fd_times ki_Fd (by decide +kernel) ⟨rfl, rfl, Nat.le_of_ble_eq_true rfl, Nat.le_of_ble_eq_true rfl⟩ hl.1 rfl rfl (Nat.le_of_ble_eq_true rfl) ⟨Nat.le_refl _, Nat.le_refl _⟩ d_Cv_multipleInto_119 ?_
      intro ov ev5 H locs hp h
      rw [hp.1]
      refine W.eq (g2 := F0 m 122 ls []) rfl ?_
      have o5 : ev5 = (va_up (va_up ev4 20 (eJ G 20 (wdC (lad (uRow X) (KEYB K) 255).1 (ivS (lad (uRow X) (KEYB K) 255).2.1 254) 10))) 27 (eJ G 10 (tm (lad (uRow X) (KEYB K) 255).1 (ivS (lad (uRow X) (KEYB K) 255).2.1 254)))) := hp.2
      have t5_20 : ev5 20 = eJ G 20 (wdC (lad (uRow X) (KEYB K) 255).1 (ivS (lad (uRow X) (KEYB K) 255).2.1 254) 10) := by rw [o5, va_up_ne _ _ (by decide), va_up_self]
      have t5_27 : ev5 27 = eJ G 10 (tm (lad (uRow X) (KEYB K) 255).1 (ivS (lad (uRow X) (KEYB K) 255).2.1 254)) := by rw [o5, va_up_self]
      have t5_1 := (show ev5 1 = ev4 1 by rw [o5, va_up_ne _ _ (by decide), va_up_ne _ _ (by decide)]).trans t4_1
      have t5_3 := (show ev5 3 = ev4 3 by rw [o5, va_up_ne _ _ (by decide), va_up_ne _ _ (by decide)]).trans t4_3
      have t5_qt := (show ev5 qt = ev4 qt by rw [o5, va_up_ne _ _ (by omega), va_up_ne _ _ (by omega)]).trans t4_qt
      have t5_21 := (show ev5 21 = ev4 21 by rw [o5, va_up_ne _ _ (by decide), va_up_ne _ _ (by decide)]).trans t4_21
      have t5_22 := (show ev5 22 = ev4 22 by rw [o5, va_up_ne _ _ (by decide), va_up_ne _ _ (by decide)]).trans t4_22
      have t5_23 := (show ev5 23 = ev4 23 by rw [o5, va_up_ne _ _ (by decide), va_up_ne _ _ (by decide)]).trans t4_23
      have t5_24 := (show ev5 24 = ev4 24 by rw [o5, va_up_ne _ _ (by decide), va_up_ne _ _ (by decide)]).trans t4_24
      have t5_25 := (show ev5 25 = ev4 25 by rw [o5, va_up_ne _ _ (by decide), va_up_ne _ _ (by decide)]).trans t4_25
      have t5_26 := (show ev5 26 = ev4 26 by rw [o5, va_up_ne _ _ (by decide), va_up_ne _ _ (by decide)]).trans t4_26
      have t5_28 := (show ev5 28 = ev4 28 by rw [o5, va_up_ne _ _ (by decide), va_up_ne _ _ (by decide)]).trans t4_28
      have t5_29 := (show ev5 29 = ev4 29 by rw [o5, va_up_ne _ _ (by decide), va_up_ne _ _ (by decide)]).trans t4_29
      have t5_30 := (show ev5 30 = ev4 30 by rw [o5, va_up_ne _ _ (by decide), va_up_ne _ _ (by decide)]).trans t4_30
      have t5_31 := (show ev5 31 = ev4 31 by rw [o5, va_up_ne _ _ (by decide), va_up_ne _ _ (by decide)]).trans t4_31
      have t5_32 := (show ev5 32 = ev4 32 by rw [o5, va_up_ne _ _ (by decide), va_up_ne _ _ (by decide)]).trans t4_32
      have t5_33 := (show ev5 33 = ev4 33 by rw [o5, va_up_ne _ _ (by decide), va_up_ne _ _ (by decide)]).trans t4_33
      have t5_18 := (show ev5 18 = ev4 18 by rw [o5, va_up_ne _ _ (by decide), va_up_ne _ _ (by decide)]).trans t4_18
      have t5_19 := (show ev5 19 = ev4 19 by rw [o5, va_up_ne _ _ (by decide), va_up_ne _ _ (by decide)]).trans t4_19
      refine lv_aload_n hx hb d_Cv_multipleInto_122 rfl (lv_at hl 1 rfl) ?_
      refine wv_getf hx hb h 18 (by decide) (fs := [.ref (ad 19), .ref (ad 21), .ref (ad 22), .ref (ad 23), .ref (ad 24), .ref (ad 25), .ref (ad 26), .ref (ad 27), .ref (ad 28), .ref (ad 29), .ref (ad 30), .ref (ad 31), .ref (ad 32), .ref (ad 33)]) t5_18 hts (fun w hw => List.mem_cons_of_mem _ (fW_Cv w hw)) hown (ci := 0) (C := "NonceBox$Curve") (T := fT_Cv) (N := 14) rfl 0 (by decide) (hts _ (List.mem_cons_of_mem _ kf_Cv_16)) rfl (v := .ref (ad 19)) rfl d_Cv_multipleInto_123 ?_
      refine lv_aload_n hx hb d_Cv_multipleInto_126 rfl (lv_at hl 1 rfl) ?_
      refine wv_getf hx hb h 18 (by decide) (fs := [.ref (ad 19), .ref (ad 21), .ref (ad 22), .ref (ad 23), .ref (ad 24), .ref (ad 25), .ref (ad 26), .ref (ad 27), .ref (ad 28), .ref (ad 29), .ref (ad 30), .ref (ad 31), .ref (ad 32), .ref (ad 33)]) t5_18 hts (fun w hw => List.mem_cons_of_mem _ (fW_Cv w hw)) hown (ci := 0) (C := "NonceBox$Curve") (T := fT_Cv) (N := 14) rfl 7 (by decide) (hts _ (List.mem_cons_of_mem _ kf_Cv_46)) rfl (v := .ref (ad 27)) rfl d_Cv_multipleInto_127 ?_
      refine wv_V (As := [.ref (ad 27)]) (rest := []) (k := 1) ⟨hx, hb, hml, hown, hts⟩ h 19 (by decide) (C := "NonceBox$Field") t5_19 rfl (m_Fd_settle l G A ad ev5 19 20 10 21 19 608 (by decide) t5_19 (by decide) (by decide) 27 (tm (lad (uRow X) (KEYB K) 255).1 (ivS (lad (uRow X) (KEYB K) 255).2.1 254)) (by decide) t5_27 (by decide)) kc_Fd_settle kl_Cv_86 km_Fd_settle kv_Fd_settle ki_Fd (by decide +kernel) ⟨rfl, rfl, Nat.le_of_ble_eq_true rfl, Nat.le_of_ble_eq_true rfl⟩ hl.1 rfl rfl (Nat.le_of_ble_eq_true rfl) ⟨Nat.le_refl _, Nat.le_refl _⟩ d_Cv_multipleInto_130 ?_
      intro ov ev6 H locs hp h
      rw [hp.1]
      refine W.eq (g2 := F0 m 133 ls []) rfl ?_
      have o6 : ev6 = (va_up ev5 27 (eJ G 10 (mulRow K X))) := hp.2
      have t6_27 : ev6 27 = eJ G 10 (mulRow K X) := by rw [o6, va_up_self]
      have t6_1 := (show ev6 1 = ev5 1 by rw [o6, va_up_ne _ _ (by decide)]).trans t5_1
      have t6_3 := (show ev6 3 = ev5 3 by rw [o6, va_up_ne _ _ (by decide)]).trans t5_3
      have t6_qt := (show ev6 qt = ev5 qt by rw [o6, va_up_ne _ _ (by omega)]).trans t5_qt
      have t6_20 := (show ev6 20 = ev5 20 by rw [o6, va_up_ne _ _ (by decide)]).trans t5_20
      have t6_21 := (show ev6 21 = ev5 21 by rw [o6, va_up_ne _ _ (by decide)]).trans t5_21
      have t6_22 := (show ev6 22 = ev5 22 by rw [o6, va_up_ne _ _ (by decide)]).trans t5_22
      have t6_23 := (show ev6 23 = ev5 23 by rw [o6, va_up_ne _ _ (by decide)]).trans t5_23
      have t6_24 := (show ev6 24 = ev5 24 by rw [o6, va_up_ne _ _ (by decide)]).trans t5_24
      have t6_25 := (show ev6 25 = ev5 25 by rw [o6, va_up_ne _ _ (by decide)]).trans t5_25
      have t6_26 := (show ev6 26 = ev5 26 by rw [o6, va_up_ne _ _ (by decide)]).trans t5_26
      have t6_28 := (show ev6 28 = ev5 28 by rw [o6, va_up_ne _ _ (by decide)]).trans t5_28
      have t6_29 := (show ev6 29 = ev5 29 by rw [o6, va_up_ne _ _ (by decide)]).trans t5_29
      have t6_30 := (show ev6 30 = ev5 30 by rw [o6, va_up_ne _ _ (by decide)]).trans t5_30
      have t6_31 := (show ev6 31 = ev5 31 by rw [o6, va_up_ne _ _ (by decide)]).trans t5_31
      have t6_32 := (show ev6 32 = ev5 32 by rw [o6, va_up_ne _ _ (by decide)]).trans t5_32
      have t6_33 := (show ev6 33 = ev5 33 by rw [o6, va_up_ne _ _ (by decide)]).trans t5_33
      have t6_18 := (show ev6 18 = ev5 18 by rw [o6, va_up_ne _ _ (by decide)]).trans t5_18
      have t6_19 := (show ev6 19 = ev5 19 by rw [o6, va_up_ne _ _ (by decide)]).trans t5_19
      refine lv_aload_n hx hb d_Cv_multipleInto_133 rfl (lv_at hl 1 rfl) ?_
      refine wv_getf hx hb h 18 (by decide) (fs := [.ref (ad 19), .ref (ad 21), .ref (ad 22), .ref (ad 23), .ref (ad 24), .ref (ad 25), .ref (ad 26), .ref (ad 27), .ref (ad 28), .ref (ad 29), .ref (ad 30), .ref (ad 31), .ref (ad 32), .ref (ad 33)]) t6_18 hts (fun w hw => List.mem_cons_of_mem _ (fW_Cv w hw)) hown (ci := 0) (C := "NonceBox$Curve") (T := fT_Cv) (N := 14) rfl 0 (by decide) (hts _ (List.mem_cons_of_mem _ kf_Cv_16)) rfl (v := .ref (ad 19)) rfl d_Cv_multipleInto_134 ?_
      refine lv_aload_n hx hb d_Cv_multipleInto_137 rfl (lv_at hl 1 rfl) ?_
      refine wv_getf hx hb h 18 (by decide) (fs := [.ref (ad 19), .ref (ad 21), .ref (ad 22), .ref (ad 23), .ref (ad 24), .ref (ad 25), .ref (ad 26), .ref (ad 27), .ref (ad 28), .ref (ad 29), .ref (ad 30), .ref (ad 31), .ref (ad 32), .ref (ad 33)]) t6_18 hts (fun w hw => List.mem_cons_of_mem _ (fW_Cv w hw)) hown (ci := 0) (C := "NonceBox$Curve") (T := fT_Cv) (N := 14) rfl 7 (by decide) (hts _ (List.mem_cons_of_mem _ kf_Cv_46)) rfl (v := .ref (ad 27)) rfl d_Cv_multipleInto_138 ?_
      refine lv_aload_n hx hb d_Cv_multipleInto_141 rfl (lv_at hl 4 rfl) ?_
      refine lv_bipush (v := nI (32)) hx hb d_Cv_multipleInto_142 (by decide) ?_
      refine wv_V (As := [.ref (ad 27), .ref (ad qt), .int (nI (32))]) (rest := []) (k := 3) ⟨hx, hb, hml, hown, hts⟩ h 19 (by decide) (C := "NonceBox$Field") t6_19 rfl (m_Fd_writeBytes l G A ad ev6 19 20 10 21 19 608 (by decide) t6_19 (by decide) (by decide) 27 qt Nt 32 (mulRow K X) T (by decide) hqt t6_27 t6_qt (by omega) (by omega) (by decide) nt nt2) kc_Fd_writeBytes kl_Cv_90 km_Fd_writeBytes kv_Fd_writeBytes ki_Fd (by decide +kernel) ⟨rfl, rfl, Nat.le_of_ble_eq_true rfl, Nat.le_of_ble_eq_true rfl⟩ hl.1 rfl rfl (Nat.le_of_ble_eq_true rfl) ⟨Nat.le_refl _, Nat.le_refl _⟩ d_Cv_multipleInto_144 ?_
      intro ov ev7 H locs hp h
      rw [hp.1]
      refine W.eq (g2 := F0 m 147 ls []) rfl ?_
      have o7 : ev7 = (va_up ev6 qt (eB G Nt (bs (fil 0 32 (MULB K X) T)))) := hp.2
      have t7_qt : ev7 qt = eB G Nt (bs (fil 0 32 (MULB K X) T)) := by rw [o7, va_up_self]
      have t7_1 := (show ev7 1 = ev6 1 by rw [o7, va_up_ne _ _ (by omega)]).trans t6_1
      have t7_3 := (show ev7 3 = ev6 3 by rw [o7, va_up_ne _ _ (by omega)]).trans t6_3
      have t7_20 := (show ev7 20 = ev6 20 by rw [o7, va_up_ne _ _ (by omega)]).trans t6_20
      have t7_21 := (show ev7 21 = ev6 21 by rw [o7, va_up_ne _ _ (by omega)]).trans t6_21
      have t7_22 := (show ev7 22 = ev6 22 by rw [o7, va_up_ne _ _ (by omega)]).trans t6_22
      have t7_23 := (show ev7 23 = ev6 23 by rw [o7, va_up_ne _ _ (by omega)]).trans t6_23
      have t7_24 := (show ev7 24 = ev6 24 by rw [o7, va_up_ne _ _ (by omega)]).trans t6_24
      have t7_25 := (show ev7 25 = ev6 25 by rw [o7, va_up_ne _ _ (by omega)]).trans t6_25
      have t7_26 := (show ev7 26 = ev6 26 by rw [o7, va_up_ne _ _ (by omega)]).trans t6_26
      have t7_27 := (show ev7 27 = ev6 27 by rw [o7, va_up_ne _ _ (by omega)]).trans t6_27
      have t7_28 := (show ev7 28 = ev6 28 by rw [o7, va_up_ne _ _ (by omega)]).trans t6_28
      have t7_29 := (show ev7 29 = ev6 29 by rw [o7, va_up_ne _ _ (by omega)]).trans t6_29
      have t7_30 := (show ev7 30 = ev6 30 by rw [o7, va_up_ne _ _ (by omega)]).trans t6_30
      have t7_31 := (show ev7 31 = ev6 31 by rw [o7, va_up_ne _ _ (by omega)]).trans t6_31
      have t7_32 := (show ev7 32 = ev6 32 by rw [o7, va_up_ne _ _ (by omega)]).trans t6_32
      have t7_33 := (show ev7 33 = ev6 33 by rw [o7, va_up_ne _ _ (by omega)]).trans t6_33
      have t7_18 := (show ev7 18 = ev6 18 by rw [o7, va_up_ne _ _ (by omega)]).trans t6_18
      have t7_19 := (show ev7 19 = ev6 19 by rw [o7, va_up_ne _ _ (by omega)]).trans t6_19
      refine wv_vret hx hb hr hlocks h d_Cv_multipleInto_147 ⟨(wdC (lad (uRow X) (KEYB K) 255).1 (ivS (lad (uRow X) (KEYB K) 255).2.1 254) 10), (lad (uRow X) (KEYB K) 255).1, (lad (uRow X) (KEYB K) 255).2.1, (lad (uRow X) (KEYB K) 255).2.2.1, (lad (uRow X) (KEYB K) 255).2.2.2, (uRow X), (mulRow K X), s28, s29, s30, s31, s32, s33, rfl, ?_⟩
      funext j
      by_cases c0 : j = 20
      · rw [c0, t7_20, va_up_ne _ _ (by omega), va_up_ne _ _ (by decide), va_up_ne _ _ (by decide), va_up_ne _ _ (by decide), va_up_ne _ _ (by decide), va_up_ne _ _ (by decide), va_up_ne _ _ (by decide), va_up_ne _ _ (by decide), va_up_ne _ _ (by decide), va_up_ne _ _ (by decide), va_up_ne _ _ (by decide), va_up_ne _ _ (by decide), va_up_ne _ _ (by decide), va_up_ne _ _ (by decide), va_up_self]
      by_cases c1 : j = 21
      · rw [c1, t7_21, va_up_ne _ _ (by omega), va_up_ne _ _ (by decide), va_up_ne _ _ (by decide), va_up_ne _ _ (by decide), va_up_ne _ _ (by decide), va_up_ne _ _ (by decide), va_up_ne _ _ (by decide), va_up_ne _ _ (by decide), va_up_ne _ _ (by decide), va_up_ne _ _ (by decide), va_up_ne _ _ (by decide), va_up_ne _ _ (by decide), va_up_ne _ _ (by decide), va_up_self]
      by_cases c2 : j = 22
      · rw [c2, t7_22, va_up_ne _ _ (by omega), va_up_ne _ _ (by decide), va_up_ne _ _ (by decide), va_up_ne _ _ (by decide), va_up_ne _ _ (by decide), va_up_ne _ _ (by decide), va_up_ne _ _ (by decide), va_up_ne _ _ (by decide), va_up_ne _ _ (by decide), va_up_ne _ _ (by decide), va_up_ne _ _ (by decide), va_up_ne _ _ (by decide), va_up_self]
      by_cases c3 : j = 23
      · rw [c3, t7_23, va_up_ne _ _ (by omega), va_up_ne _ _ (by decide), va_up_ne _ _ (by decide), va_up_ne _ _ (by decide), va_up_ne _ _ (by decide), va_up_ne _ _ (by decide), va_up_ne _ _ (by decide), va_up_ne _ _ (by decide), va_up_ne _ _ (by decide), va_up_ne _ _ (by decide), va_up_ne _ _ (by decide), va_up_self]
      by_cases c4 : j = 24
      · rw [c4, t7_24, va_up_ne _ _ (by omega), va_up_ne _ _ (by decide), va_up_ne _ _ (by decide), va_up_ne _ _ (by decide), va_up_ne _ _ (by decide), va_up_ne _ _ (by decide), va_up_ne _ _ (by decide), va_up_ne _ _ (by decide), va_up_ne _ _ (by decide), va_up_ne _ _ (by decide), va_up_self]
      by_cases c5 : j = 25
      · rw [c5, t7_25, va_up_ne _ _ (by omega), va_up_ne _ _ (by decide), va_up_ne _ _ (by decide), va_up_ne _ _ (by decide), va_up_ne _ _ (by decide), va_up_ne _ _ (by decide), va_up_ne _ _ (by decide), va_up_ne _ _ (by decide), va_up_ne _ _ (by decide), va_up_self]
      by_cases c6 : j = 26
      · rw [c6, t7_26, va_up_ne _ _ (by omega), va_up_ne _ _ (by decide), va_up_ne _ _ (by decide), va_up_ne _ _ (by decide), va_up_ne _ _ (by decide), va_up_ne _ _ (by decide), va_up_ne _ _ (by decide), va_up_ne _ _ (by decide), va_up_self]
      by_cases c7 : j = 27
      · rw [c7, t7_27, va_up_ne _ _ (by omega), va_up_ne _ _ (by decide), va_up_ne _ _ (by decide), va_up_ne _ _ (by decide), va_up_ne _ _ (by decide), va_up_ne _ _ (by decide), va_up_ne _ _ (by decide), va_up_self]
      by_cases c8 : j = 28
      · rw [c8, t7_28, va_up_ne _ _ (by omega), va_up_ne _ _ (by decide), va_up_ne _ _ (by decide), va_up_ne _ _ (by decide), va_up_ne _ _ (by decide), va_up_ne _ _ (by decide), va_up_self]
      by_cases c9 : j = 29
      · rw [c9, t7_29, va_up_ne _ _ (by omega), va_up_ne _ _ (by decide), va_up_ne _ _ (by decide), va_up_ne _ _ (by decide), va_up_ne _ _ (by decide), va_up_self]
      by_cases c10 : j = 30
      · rw [c10, t7_30, va_up_ne _ _ (by omega), va_up_ne _ _ (by decide), va_up_ne _ _ (by decide), va_up_ne _ _ (by decide), va_up_self]
      by_cases c11 : j = 31
      · rw [c11, t7_31, va_up_ne _ _ (by omega), va_up_ne _ _ (by decide), va_up_ne _ _ (by decide), va_up_self]
      by_cases c12 : j = 32
      · rw [c12, t7_32, va_up_ne _ _ (by omega), va_up_ne _ _ (by decide), va_up_self]
      by_cases c13 : j = 33
      · rw [c13, t7_33, va_up_ne _ _ (by omega), va_up_self]
      by_cases c14 : j = qt
      · rw [c14, t7_qt, va_up_self]
      rw [va_up_ne _ _ c14, va_up_ne _ _ c13, va_up_ne _ _ c12, va_up_ne _ _ c11, va_up_ne _ _ c10, va_up_ne _ _ c9, va_up_ne _ _ c8, va_up_ne _ _ c7, va_up_ne _ _ c6, va_up_ne _ _ c5, va_up_ne _ _ c4, va_up_ne _ _ c3, va_up_ne _ _ c2, va_up_ne _ _ c1, va_up_ne _ _ c0]
      rw [o7, va_up_ne _ _ c14, o6, va_up_ne _ _ c7, o5, va_up_ne _ _ c7, va_up_ne _ _ c0, o4, va_up_ne _ _ c7, va_up_ne _ _ c0, o3, va_up_ne _ _ c5, va_up_ne _ _ c4, va_up_ne _ _ c3, va_up_ne _ _ c2, va_up_ne _ _ c13, va_up_ne _ _ c12, va_up_ne _ _ c11, va_up_ne _ _ c10, va_up_ne _ _ c9, va_up_ne _ _ c8, va_up_ne _ _ c7, va_up_ne _ _ c0, o2, va_up_ne _ _ c1, o1, va_up_ne _ _ c5, va_up_ne _ _ c4, va_up_ne _ _ c3, va_up_ne _ _ c2, va_up_ne _ _ c6, va_up_ne _ _ c1]
    | succ d ih =>
      intro k hk_k Wd s27 s28 s29 s30 s31 s32 s33 ev3 H locs ls  o3 h hl
      have hl : lv_has ls 5 [(4, .int (nI (d))), (0, .ref (ad 18)), (1, .ref (ad 1)), (2, .ref (ad 3)), (3, .ref (ad qt))] := hl
      have t3_20 : ev3 20 = eJ G 20 Wd := by rw [o3, va_up_ne _ _ (by decide), va_up_ne _ _ (by decide), va_up_ne _ _ (by decide), va_up_ne _ _ (by decide), va_up_ne _ _ (by decide), va_up_ne _ _ (by decide), va_up_ne _ _ (by decide), va_up_ne _ _ (by decide), va_up_ne _ _ (by decide), va_up_ne _ _ (by decide), va_up_ne _ _ (by decide), va_up_self]
      have t3_27 : ev3 27 = eJ G 10 s27 := by rw [o3, va_up_ne _ _ (by decide), va_up_ne _ _ (by decide), va_up_ne _ _ (by decide), va_up_ne _ _ (by decide), va_up_ne _ _ (by decide), va_up_ne _ _ (by decide), va_up_ne _ _ (by decide), va_up_ne _ _ (by decide), va_up_ne _ _ (by decide), va_up_ne _ _ (by decide), va_up_self]
      have t3_28 : ev3 28 = eJ G 10 s28 := by rw [o3, va_up_ne _ _ (by decide), va_up_ne _ _ (by decide), va_up_ne _ _ (by decide), va_up_ne _ _ (by decide), va_up_ne _ _ (by decide), va_up_ne _ _ (by decide), va_up_ne _ _ (by decide), va_up_ne _ _ (by decide), va_up_ne _ _ (by decide), va_up_self]
      have t3_29 : ev3 29 = eJ G 10 s29 := by rw [o3, va_up_ne _ _ (by decide), va_up_ne _ _ (by decide), va_up_ne _ _ (by decide), va_up_ne _ _ (by decide), va_up_ne _ _ (by decide), va_up_ne _ _ (by decide), va_up_ne _ _ (by decide), va_up_ne _ _ (by decide), va_up_self]
      have t3_30 : ev3 30 = eJ G 10 s30 := by rw [o3, va_up_ne _ _ (by decide), va_up_ne _ _ (by decide), va_up_ne _ _ (by decide), va_up_ne _ _ (by decide), va_up_ne _ _ (by decide), va_up_ne _ _ (by decide), va_up_ne _ _ (by decide), va_up_self]
      have t3_31 : ev3 31 = eJ G 10 s31 := by rw [o3, va_up_ne _ _ (by decide), va_up_ne _ _ (by decide), va_up_ne _ _ (by decide), va_up_ne _ _ (by decide), va_up_ne _ _ (by decide), va_up_ne _ _ (by decide), va_up_self]
      have t3_32 : ev3 32 = eJ G 10 s32 := by rw [o3, va_up_ne _ _ (by decide), va_up_ne _ _ (by decide), va_up_ne _ _ (by decide), va_up_ne _ _ (by decide), va_up_ne _ _ (by decide), va_up_self]
      have t3_33 : ev3 33 = eJ G 10 s33 := by rw [o3, va_up_ne _ _ (by decide), va_up_ne _ _ (by decide), va_up_ne _ _ (by decide), va_up_ne _ _ (by decide), va_up_self]
      have t3_22 : ev3 22 = eJ G 10 (lad (uRow X) (KEYB K) k).1 := by rw [o3, va_up_ne _ _ (by decide), va_up_ne _ _ (by decide), va_up_ne _ _ (by decide), va_up_self]
      have t3_23 : ev3 23 = eJ G 10 (lad (uRow X) (KEYB K) k).2.1 := by rw [o3, va_up_ne _ _ (by decide), va_up_ne _ _ (by decide), va_up_self]
      have t3_24 : ev3 24 = eJ G 10 (lad (uRow X) (KEYB K) k).2.2.1 := by rw [o3, va_up_ne _ _ (by decide), va_up_self]
      have t3_25 : ev3 25 = eJ G 10 (lad (uRow X) (KEYB K) k).2.2.2 := by rw [o3, va_up_self]
      have t3_1 := (show ev3 1 = ev2 1 by rw [o3, va_up_ne _ _ (by decide), va_up_ne _ _ (by decide), va_up_ne _ _ (by decide), va_up_ne _ _ (by decide), va_up_ne _ _ (by decide), va_up_ne _ _ (by decide), va_up_ne _ _ (by decide), va_up_ne _ _ (by decide), va_up_ne _ _ (by decide), va_up_ne _ _ (by decide), va_up_ne _ _ (by decide), va_up_ne _ _ (by decide)]).trans t2_1
      have t3_3 := (show ev3 3 = ev2 3 by rw [o3, va_up_ne _ _ (by decide), va_up_ne _ _ (by decide), va_up_ne _ _ (by decide), va_up_ne _ _ (by decide), va_up_ne _ _ (by decide), va_up_ne _ _ (by decide), va_up_ne _ _ (by decide), va_up_ne _ _ (by decide), va_up_ne _ _ (by decide), va_up_ne _ _ (by decide), va_up_ne _ _ (by decide), va_up_ne _ _ (by decide)]).trans t2_3
      have t3_qt := (show ev3 qt = ev2 qt by rw [o3, va_up_ne _ _ (by omega), va_up_ne _ _ (by omega), va_up_ne _ _ (by omega), va_up_ne _ _ (by omega), va_up_ne _ _ (by omega), va_up_ne _ _ (by omega), va_up_ne _ _ (by omega), va_up_ne _ _ (by omega), va_up_ne _ _ (by omega), va_up_ne _ _ (by omega), va_up_ne _ _ (by omega), va_up_ne _ _ (by omega)]).trans t2_qt
      have t3_21 := (show ev3 21 = ev2 21 by rw [o3, va_up_ne _ _ (by decide), va_up_ne _ _ (by decide), va_up_ne _ _ (by decide), va_up_ne _ _ (by decide), va_up_ne _ _ (by decide), va_up_ne _ _ (by decide), va_up_ne _ _ (by decide), va_up_ne _ _ (by decide), va_up_ne _ _ (by decide), va_up_ne _ _ (by decide), va_up_ne _ _ (by decide), va_up_ne _ _ (by decide)]).trans t2_21
      have t3_26 := (show ev3 26 = ev2 26 by rw [o3, va_up_ne _ _ (by decide), va_up_ne _ _ (by decide), va_up_ne _ _ (by decide), va_up_ne _ _ (by decide), va_up_ne _ _ (by decide), va_up_ne _ _ (by decide), va_up_ne _ _ (by decide), va_up_ne _ _ (by decide), va_up_ne _ _ (by decide), va_up_ne _ _ (by decide), va_up_ne _ _ (by decide), va_up_ne _ _ (by decide)]).trans t2_26
      have t3_18 := (show ev3 18 = ev2 18 by rw [o3, va_up_ne _ _ (by decide), va_up_ne _ _ (by decide), va_up_ne _ _ (by decide), va_up_ne _ _ (by decide), va_up_ne _ _ (by decide), va_up_ne _ _ (by decide), va_up_ne _ _ (by decide), va_up_ne _ _ (by decide), va_up_ne _ _ (by decide), va_up_ne _ _ (by decide), va_up_ne _ _ (by decide), va_up_ne _ _ (by decide)]).trans t2_18
      have t3_19 := (show ev3 19 = ev2 19 by rw [o3, va_up_ne _ _ (by decide), va_up_ne _ _ (by decide), va_up_ne _ _ (by decide), va_up_ne _ _ (by decide), va_up_ne _ _ (by decide), va_up_ne _ _ (by decide), va_up_ne _ _ (by decide), va_up_ne _ _ (by decide), va_up_ne _ _ (by decide), va_up_ne _ _ (by decide), va_up_ne _ _ (by decide), va_up_ne _ _ (by decide)]).trans t2_19
      refine lv_iload hx hb d_Cv_multipleInto_15 (lv_at hl 0 rfl) ?_
      refine lv_if_lt (tgt := 91) hx hb d_Cv_multipleInto_17 (by decide) (fun hc => absurd hc (nI_pos (by omega))) (fun _ => ?_)
      refine lv_aload_n hx hb d_Cv_multipleInto_20 rfl (lv_at hl 1 rfl) ?_
      refine wv_getf hx hb h 18 (by decide) (fs := [.ref (ad 19), .ref (ad 21), .ref (ad 22), .ref (ad 23), .ref (ad 24), .ref (ad 25), .ref (ad 26), .ref (ad 27), .ref (ad 28), .ref (ad 29), .ref (ad 30), .ref (ad 31), .ref (ad 32), .ref (ad 33)]) t3_18 hts (fun w hw => List.mem_cons_of_mem _ (fW_Cv w hw)) hown (ci := 0) (C := "NonceBox$Curve") (T := fT_Cv) (N := 14) rfl 1 (by decide) (hts _ (List.mem_cons_of_mem _ kf_Cv_22)) rfl (v := .ref (ad 21)) rfl d_Cv_multipleInto_21 ?_
      refine lv_iload hx hb d_Cv_multipleInto_24 (lv_at hl 0 rfl) ?_
      refine lv_bipush (v := nI (8)) hx hb d_Cv_multipleInto_26 (by decide) ?_
      refine lv_idiv hx hb d_Cv_multipleInto_28 (by decide) ?_
      refine wv_top (pk_div (by omega) (by omega) (by omega)) ?_
      refine wv_bald hx hb h 21 (by decide) (f := (bs (KEYB K))) t3_21 (k := d / 8) rfl (by omega) (by decide) d_Cv_multipleInto_29 ?_
      refine lv_iload hx hb d_Cv_multipleInto_30 (lv_at hl 0 rfl) ?_
      refine lv_bipush (v := nI (8)) hx hb d_Cv_multipleInto_32 (by decide) ?_
      refine lv_irem hx hb d_Cv_multipleInto_34 (by decide) ?_
      refine wv_top (pk_rem (by omega) (by omega) (by omega)) ?_
      refine lv_ishr hx hb d_Cv_multipleInto_35 ?_
      refine lv_iconst (v := (1 : Int32)) hx hb d_Cv_multipleInto_36 (by decide) ?_
      refine lv_iand hx hb d_Cv_multipleInto_37 ?_
      refine wv_top (sb_bit _ (KEYB_lt hK _) _ (by omega)) ?_
      refine lv_iconst (v := nI (1)) hx hb d_Cv_multipleInto_38 (by decide) ?_
      refine lv_icmp_ne (tgt := 65) hx hb d_Cv_multipleInto_39 (by decide) (fun hc => ?_) (fun hc => ?_)
      · have hc : ¬ bitN (KEYB K) (254 - k) = 1 := fun q => hc (by rw [show d = 254 - k by omega]; exact congrArg nI q)
        refine lv_aload_n hx hb d_Cv_multipleInto_65 rfl (lv_at hl 1 rfl) ?_
        refine lv_aload_n hx hb d_Cv_multipleInto_66 rfl (lv_at hl 1 rfl) ?_
        refine wv_getf hx hb h 18 (by decide) (fs := [.ref (ad 19), .ref (ad 21), .ref (ad 22), .ref (ad 23), .ref (ad 24), .ref (ad 25), .ref (ad 26), .ref (ad 27), .ref (ad 28), .ref (ad 29), .ref (ad 30), .ref (ad 31), .ref (ad 32), .ref (ad 33)]) t3_18 hts (fun w hw => List.mem_cons_of_mem _ (fW_Cv w hw)) hown (ci := 0) (C := "NonceBox$Curve") (T := fT_Cv) (N := 14) rfl 2 (by decide) (hts _ (List.mem_cons_of_mem _ kf_Cv_30)) rfl (v := .ref (ad 22)) rfl d_Cv_multipleInto_67 ?_
        refine lv_aload_n hx hb d_Cv_multipleInto_70 rfl (lv_at hl 1 rfl) ?_
        refine wv_getf hx hb h 18 (by decide) (fs := [.ref (ad 19), .ref (ad 21), .ref (ad 22), .ref (ad 23), .ref (ad 24), .ref (ad 25), .ref (ad 26), .ref (ad 27), .ref (ad 28), .ref (ad 29), .ref (ad 30), .ref (ad 31), .ref (ad 32), .ref (ad 33)]) t3_18 hts (fun w hw => List.mem_cons_of_mem _ (fW_Cv w hw)) hown (ci := 0) (C := "NonceBox$Curve") (T := fT_Cv) (N := 14) rfl 3 (by decide) (hts _ (List.mem_cons_of_mem _ kf_Cv_34)) rfl (v := .ref (ad 23)) rfl d_Cv_multipleInto_71 ?_
        refine lv_aload_n hx hb d_Cv_multipleInto_74 rfl (lv_at hl 1 rfl) ?_
        refine wv_getf hx hb h 18 (by decide) (fs := [.ref (ad 19), .ref (ad 21), .ref (ad 22), .ref (ad 23), .ref (ad 24), .ref (ad 25), .ref (ad 26), .ref (ad 27), .ref (ad 28), .ref (ad 29), .ref (ad 30), .ref (ad 31), .ref (ad 32), .ref (ad 33)]) t3_18 hts (fun w hw => List.mem_cons_of_mem _ (fW_Cv w hw)) hown (ci := 0) (C := "NonceBox$Curve") (T := fT_Cv) (N := 14) rfl 4 (by decide) (hts _ (List.mem_cons_of_mem _ kf_Cv_37)) rfl (v := .ref (ad 24)) rfl d_Cv_multipleInto_75 ?_
        refine lv_aload_n hx hb d_Cv_multipleInto_78 rfl (lv_at hl 1 rfl) ?_
        refine wv_getf hx hb h 18 (by decide) (fs := [.ref (ad 19), .ref (ad 21), .ref (ad 22), .ref (ad 23), .ref (ad 24), .ref (ad 25), .ref (ad 26), .ref (ad 27), .ref (ad 28), .ref (ad 29), .ref (ad 30), .ref (ad 31), .ref (ad 32), .ref (ad 33)]) t3_18 hts (fun w hw => List.mem_cons_of_mem _ (fW_Cv w hw)) hown (ci := 0) (C := "NonceBox$Curve") (T := fT_Cv) (N := 14) rfl 5 (by decide) (hts _ (List.mem_cons_of_mem _ kf_Cv_40)) rfl (v := .ref (ad 25)) rfl d_Cv_multipleInto_79 ?_
        refine wv_V (As := [.ref (ad 22), .ref (ad 23), .ref (ad 24), .ref (ad 25)]) (rest := []) (k := 4) ⟨hx, hb, hml, hown, hts⟩ h 18 (by decide) (C := "NonceBox$Curve") t3_18 rfl (m_Cv_step l G A ad ev3 (lad (uRow X) (KEYB K) k).1 (lad (uRow X) (KEYB K) k).2.1 (lad (uRow X) (KEYB K) k).2.2.1 (lad (uRow X) (KEYB K) k).2.2.2 (uRow X) Wd s27 s28 s29 s30 s31 s32 s33 t3_18 t3_19 t3_22 t3_23 t3_24 t3_25 t3_26 t3_20 t3_27 t3_28 t3_29 t3_30 t3_31 t3_32 t3_33) kc_Cv_step kl_Cv_74 km_Cv_step kv_Cv_step ki_Cv (by decide +kernel) ⟨rfl, rfl, Nat.le_of_ble_eq_true rfl, Nat.le_of_ble_eq_true rfl⟩ hl.1 rfl rfl (Nat.le_of_ble_eq_true rfl) ⟨Nat.le_refl _, Nat.le_refl _⟩ d_Cv_multipleInto_82 ?_
        intro ov ev4 H locs hp h
        obtain ⟨W2, u27, u28, u29, u30, u31, u32, u33, hp⟩ := hp
        rw [hp.1]
        refine W.eq (g2 := F0 m 85 ls []) rfl ?_
        have o4 : ev4 = (va_up (va_up (va_up (va_up (va_up (va_up (va_up (va_up (va_up (va_up (va_up (va_up ev3 20 (eJ G 20 W2)) 27 (eJ G 10 u27)) 28 (eJ G 10 u28)) 29 (eJ G 10 u29)) 30 (eJ G 10 u30)) 31 (eJ G 10 u31)) 32 (eJ G 10 u32)) 33 (eJ G 10 u33)) 22 (eJ G 10 (stA (lad (uRow X) (KEYB K) k).1 (lad (uRow X) (KEYB K) k).2.1))) 23 (eJ G 10 (stB (lad (uRow X) (KEYB K) k).1 (lad (uRow X) (KEYB K) k).2.1))) 24 (eJ G 10 (stC (lad (uRow X) (KEYB K) k).1 (lad (uRow X) (KEYB K) k).2.1 (lad (uRow X) (KEYB K) k).2.2.1 (lad (uRow X) (KEYB K) k).2.2.2))) 25 (eJ G 10 (stD (uRow X) (lad (uRow X) (KEYB K) k).1 (lad (uRow X) (KEYB K) k).2.1 (lad (uRow X) (KEYB K) k).2.2.1 (lad (uRow X) (KEYB K) k).2.2.2))) := hp.2
        have t4_20 : ev4 20 = eJ G 20 W2 := by rw [o4, va_up_ne _ _ (by decide), va_up_ne _ _ (by decide), va_up_ne _ _ (by decide), va_up_ne _ _ (by decide), va_up_ne _ _ (by decide), va_up_ne _ _ (by decide), va_up_ne _ _ (by decide), va_up_ne _ _ (by decide), va_up_ne _ _ (by decide), va_up_ne _ _ (by decide), va_up_ne _ _ (by decide), va_up_self]
        have t4_27 : ev4 27 = eJ G 10 u27 := by rw [o4, va_up_ne _ _ (by decide), va_up_ne _ _ (by decide), va_up_ne _ _ (by decide), va_up_ne _ _ (by decide), va_up_ne _ _ (by decide), va_up_ne _ _ (by decide), va_up_ne _ _ (by decide), va_up_ne _ _ (by decide), va_up_ne _ _ (by decide), va_up_ne _ _ (by decide), va_up_self]
        have t4_28 : ev4 28 = eJ G 10 u28 := by rw [o4, va_up_ne _ _ (by decide), va_up_ne _ _ (by decide), va_up_ne _ _ (by decide), va_up_ne _ _ (by decide), va_up_ne _ _ (by decide), va_up_ne _ _ (by decide), va_up_ne _ _ (by decide), va_up_ne _ _ (by decide), va_up_ne _ _ (by decide), va_up_self]
        have t4_29 : ev4 29 = eJ G 10 u29 := by rw [o4, va_up_ne _ _ (by decide), va_up_ne _ _ (by decide), va_up_ne _ _ (by decide), va_up_ne _ _ (by decide), va_up_ne _ _ (by decide), va_up_ne _ _ (by decide), va_up_ne _ _ (by decide), va_up_ne _ _ (by decide), va_up_self]
        have t4_30 : ev4 30 = eJ G 10 u30 := by rw [o4, va_up_ne _ _ (by decide), va_up_ne _ _ (by decide), va_up_ne _ _ (by decide), va_up_ne _ _ (by decide), va_up_ne _ _ (by decide), va_up_ne _ _ (by decide), va_up_ne _ _ (by decide), va_up_self]
        have t4_31 : ev4 31 = eJ G 10 u31 := by rw [o4, va_up_ne _ _ (by decide), va_up_ne _ _ (by decide), va_up_ne _ _ (by decide), va_up_ne _ _ (by decide), va_up_ne _ _ (by decide), va_up_ne _ _ (by decide), va_up_self]
        have t4_32 : ev4 32 = eJ G 10 u32 := by rw [o4, va_up_ne _ _ (by decide), va_up_ne _ _ (by decide), va_up_ne _ _ (by decide), va_up_ne _ _ (by decide), va_up_ne _ _ (by decide), va_up_self]
        have t4_33 : ev4 33 = eJ G 10 u33 := by rw [o4, va_up_ne _ _ (by decide), va_up_ne _ _ (by decide), va_up_ne _ _ (by decide), va_up_ne _ _ (by decide), va_up_self]
        have t4_22 : ev4 22 = eJ G 10 (stA (lad (uRow X) (KEYB K) k).1 (lad (uRow X) (KEYB K) k).2.1) := by rw [o4, va_up_ne _ _ (by decide), va_up_ne _ _ (by decide), va_up_ne _ _ (by decide), va_up_self]
        have t4_23 : ev4 23 = eJ G 10 (stB (lad (uRow X) (KEYB K) k).1 (lad (uRow X) (KEYB K) k).2.1) := by rw [o4, va_up_ne _ _ (by decide), va_up_ne _ _ (by decide), va_up_self]
        have t4_24 : ev4 24 = eJ G 10 (stC (lad (uRow X) (KEYB K) k).1 (lad (uRow X) (KEYB K) k).2.1 (lad (uRow X) (KEYB K) k).2.2.1 (lad (uRow X) (KEYB K) k).2.2.2) := by rw [o4, va_up_ne _ _ (by decide), va_up_self]
        have t4_25 : ev4 25 = eJ G 10 (stD (uRow X) (lad (uRow X) (KEYB K) k).1 (lad (uRow X) (KEYB K) k).2.1 (lad (uRow X) (KEYB K) k).2.2.1 (lad (uRow X) (KEYB K) k).2.2.2) := by rw [o4, va_up_self]
        have t4_1 := (show ev4 1 = ev3 1 by rw [o4, va_up_ne _ _ (by decide), va_up_ne _ _ (by decide), va_up_ne _ _ (by decide), va_up_ne _ _ (by decide), va_up_ne _ _ (by decide), va_up_ne _ _ (by decide), va_up_ne _ _ (by decide), va_up_ne _ _ (by decide), va_up_ne _ _ (by decide), va_up_ne _ _ (by decide), va_up_ne _ _ (by decide), va_up_ne _ _ (by decide)]).trans t3_1
        have t4_3 := (show ev4 3 = ev3 3 by rw [o4, va_up_ne _ _ (by decide), va_up_ne _ _ (by decide), va_up_ne _ _ (by decide), va_up_ne _ _ (by decide), va_up_ne _ _ (by decide), va_up_ne _ _ (by decide), va_up_ne _ _ (by decide), va_up_ne _ _ (by decide), va_up_ne _ _ (by decide), va_up_ne _ _ (by decide), va_up_ne _ _ (by decide), va_up_ne _ _ (by decide)]).trans t3_3
        have t4_qt := (show ev4 qt = ev3 qt by rw [o4, va_up_ne _ _ (by omega), va_up_ne _ _ (by omega), va_up_ne _ _ (by omega), va_up_ne _ _ (by omega), va_up_ne _ _ (by omega), va_up_ne _ _ (by omega), va_up_ne _ _ (by omega), va_up_ne _ _ (by omega), va_up_ne _ _ (by omega), va_up_ne _ _ (by omega), va_up_ne _ _ (by omega), va_up_ne _ _ (by omega)]).trans t3_qt
        have t4_21 := (show ev4 21 = ev3 21 by rw [o4, va_up_ne _ _ (by decide), va_up_ne _ _ (by decide), va_up_ne _ _ (by decide), va_up_ne _ _ (by decide), va_up_ne _ _ (by decide), va_up_ne _ _ (by decide), va_up_ne _ _ (by decide), va_up_ne _ _ (by decide), va_up_ne _ _ (by decide), va_up_ne _ _ (by decide), va_up_ne _ _ (by decide), va_up_ne _ _ (by decide)]).trans t3_21
        have t4_26 := (show ev4 26 = ev3 26 by rw [o4, va_up_ne _ _ (by decide), va_up_ne _ _ (by decide), va_up_ne _ _ (by decide), va_up_ne _ _ (by decide), va_up_ne _ _ (by decide), va_up_ne _ _ (by decide), va_up_ne _ _ (by decide), va_up_ne _ _ (by decide), va_up_ne _ _ (by decide), va_up_ne _ _ (by decide), va_up_ne _ _ (by decide), va_up_ne _ _ (by decide)]).trans t3_26
        have t4_18 := (show ev4 18 = ev3 18 by rw [o4, va_up_ne _ _ (by decide), va_up_ne _ _ (by decide), va_up_ne _ _ (by decide), va_up_ne _ _ (by decide), va_up_ne _ _ (by decide), va_up_ne _ _ (by decide), va_up_ne _ _ (by decide), va_up_ne _ _ (by decide), va_up_ne _ _ (by decide), va_up_ne _ _ (by decide), va_up_ne _ _ (by decide), va_up_ne _ _ (by decide)]).trans t3_18
        have t4_19 := (show ev4 19 = ev3 19 by rw [o4, va_up_ne _ _ (by decide), va_up_ne _ _ (by decide), va_up_ne _ _ (by decide), va_up_ne _ _ (by decide), va_up_ne _ _ (by decide), va_up_ne _ _ (by decide), va_up_ne _ _ (by decide), va_up_ne _ _ (by decide), va_up_ne _ _ (by decide), va_up_ne _ _ (by decide), va_up_ne _ _ (by decide), va_up_ne _ _ (by decide)]).trans t3_19
        refine lv_iinc (v := dn d) (lv' := [(4, .int (dn d)), (0, .ref (ad 18)), (1, .ref (ad 1)), (2, .ref (ad 3)), (3, .ref (ad qt))]) hx hb d_Cv_multipleInto_85 hl (k := 0) rfl (dn_dec d) (by decide) rfl (fun ls hl => ?_)
        refine lv_goto (tgt := 15) hx hb d_Cv_multipleInto_88 (by decide) ?_
        have el : (lad (uRow X) (KEYB K) (k + 1)) = ((stA (lad (uRow X) (KEYB K) k).1 (lad (uRow X) (KEYB K) k).2.1), (stB (lad (uRow X) (KEYB K) k).1 (lad (uRow X) (KEYB K) k).2.1), (stC (lad (uRow X) (KEYB K) k).1 (lad (uRow X) (KEYB K) k).2.1 (lad (uRow X) (KEYB K) k).2.2.1 (lad (uRow X) (KEYB K) k).2.2.2), (stD (uRow X) (lad (uRow X) (KEYB K) k).1 (lad (uRow X) (KEYB K) k).2.1 (lad (uRow X) (KEYB K) k).2.2.1 (lad (uRow X) (KEYB K) k).2.2.2)) := if_neg hc
        refine ih (k + 1) (by omega) W2 u27 u28 u29 u30 u31 u32 u33 ev4 H locs ls ?_ h (lv_sub hl [0, 1, 2, 3, 4] rfl)
        rw [el]
        rw [o4, o3]
        funext j
        by_cases c0 : j = 20
        · subst c0; simp [va_up]
        by_cases c1 : j = 27
        · subst c1; simp [va_up]
        by_cases c2 : j = 28
        · subst c2; simp [va_up]
        by_cases c3 : j = 29
        · subst c3; simp [va_up]
        by_cases c4 : j = 30
        · subst c4; simp [va_up]
        by_cases c5 : j = 31
        · subst c5; simp [va_up]
        by_cases c6 : j = 32
        · subst c6; simp [va_up]
        by_cases c7 : j = 33
        · subst c7; simp [va_up]
        by_cases c8 : j = 22
        · subst c8; simp [va_up]
        by_cases c9 : j = 23
        · subst c9; simp [va_up]
        by_cases c10 : j = 24
        · subst c10; simp [va_up]
        by_cases c11 : j = 25
        · subst c11; simp [va_up]
        simp only [va_up, c0, c1, c2, c3, c4, c5, c6, c7, c8, c9, c10, c11, if_false]
      · have hc : bitN (KEYB K) (254 - k) = 1 := by
          rw [show d = 254 - k by omega] at hc
          exact (nI_eq (Nat.lt_of_lt_of_le (Nat.mod_lt _ (by decide)) (by decide)) (by omega)).mp hc
        refine lv_aload_n hx hb d_Cv_multipleInto_42 rfl (lv_at hl 1 rfl) ?_
        refine lv_aload_n hx hb d_Cv_multipleInto_43 rfl (lv_at hl 1 rfl) ?_
        refine wv_getf hx hb h 18 (by decide) (fs := [.ref (ad 19), .ref (ad 21), .ref (ad 22), .ref (ad 23), .ref (ad 24), .ref (ad 25), .ref (ad 26), .ref (ad 27), .ref (ad 28), .ref (ad 29), .ref (ad 30), .ref (ad 31), .ref (ad 32), .ref (ad 33)]) t3_18 hts (fun w hw => List.mem_cons_of_mem _ (fW_Cv w hw)) hown (ci := 0) (C := "NonceBox$Curve") (T := fT_Cv) (N := 14) rfl 4 (by decide) (hts _ (List.mem_cons_of_mem _ kf_Cv_37)) rfl (v := .ref (ad 24)) rfl d_Cv_multipleInto_44 ?_
        refine lv_aload_n hx hb d_Cv_multipleInto_47 rfl (lv_at hl 1 rfl) ?_
        refine wv_getf hx hb h 18 (by decide) (fs := [.ref (ad 19), .ref (ad 21), .ref (ad 22), .ref (ad 23), .ref (ad 24), .ref (ad 25), .ref (ad 26), .ref (ad 27), .ref (ad 28), .ref (ad 29), .ref (ad 30), .ref (ad 31), .ref (ad 32), .ref (ad 33)]) t3_18 hts (fun w hw => List.mem_cons_of_mem _ (fW_Cv w hw)) hown (ci := 0) (C := "NonceBox$Curve") (T := fT_Cv) (N := 14) rfl 5 (by decide) (hts _ (List.mem_cons_of_mem _ kf_Cv_40)) rfl (v := .ref (ad 25)) rfl d_Cv_multipleInto_48 ?_
        refine lv_aload_n hx hb d_Cv_multipleInto_51 rfl (lv_at hl 1 rfl) ?_
        refine wv_getf hx hb h 18 (by decide) (fs := [.ref (ad 19), .ref (ad 21), .ref (ad 22), .ref (ad 23), .ref (ad 24), .ref (ad 25), .ref (ad 26), .ref (ad 27), .ref (ad 28), .ref (ad 29), .ref (ad 30), .ref (ad 31), .ref (ad 32), .ref (ad 33)]) t3_18 hts (fun w hw => List.mem_cons_of_mem _ (fW_Cv w hw)) hown (ci := 0) (C := "NonceBox$Curve") (T := fT_Cv) (N := 14) rfl 2 (by decide) (hts _ (List.mem_cons_of_mem _ kf_Cv_30)) rfl (v := .ref (ad 22)) rfl d_Cv_multipleInto_52 ?_
        refine lv_aload_n hx hb d_Cv_multipleInto_55 rfl (lv_at hl 1 rfl) ?_
        refine wv_getf hx hb h 18 (by decide) (fs := [.ref (ad 19), .ref (ad 21), .ref (ad 22), .ref (ad 23), .ref (ad 24), .ref (ad 25), .ref (ad 26), .ref (ad 27), .ref (ad 28), .ref (ad 29), .ref (ad 30), .ref (ad 31), .ref (ad 32), .ref (ad 33)]) t3_18 hts (fun w hw => List.mem_cons_of_mem _ (fW_Cv w hw)) hown (ci := 0) (C := "NonceBox$Curve") (T := fT_Cv) (N := 14) rfl 3 (by decide) (hts _ (List.mem_cons_of_mem _ kf_Cv_34)) rfl (v := .ref (ad 23)) rfl d_Cv_multipleInto_56 ?_
        refine wv_V (As := [.ref (ad 24), .ref (ad 25), .ref (ad 22), .ref (ad 23)]) (rest := []) (k := 4) ⟨hx, hb, hml, hown, hts⟩ h 18 (by decide) (C := "NonceBox$Curve") t3_18 rfl (m_Cv_step2 l G A ad ev3 (lad (uRow X) (KEYB K) k).2.2.1 (lad (uRow X) (KEYB K) k).2.2.2 (lad (uRow X) (KEYB K) k).1 (lad (uRow X) (KEYB K) k).2.1 (uRow X) Wd s27 s28 s29 s30 s31 s32 s33 t3_18 t3_19 t3_24 t3_25 t3_22 t3_23 t3_26 t3_20 t3_27 t3_28 t3_29 t3_30 t3_31 t3_32 t3_33) kc_Cv_step kl_Cv_74 km_Cv_step kv_Cv_step ki_Cv (by decide +kernel) ⟨rfl, rfl, Nat.le_of_ble_eq_true rfl, Nat.le_of_ble_eq_true rfl⟩ hl.1 rfl rfl (Nat.le_of_ble_eq_true rfl) ⟨Nat.le_refl _, Nat.le_refl _⟩ d_Cv_multipleInto_59 ?_
        intro ov ev4 H locs hp h
        obtain ⟨W2, u27, u28, u29, u30, u31, u32, u33, hp⟩ := hp
        rw [hp.1]
        refine W.eq (g2 := F0 m 62 ls []) rfl ?_
        have o4 : ev4 = (va_up (va_up (va_up (va_up (va_up (va_up (va_up (va_up (va_up (va_up (va_up (va_up ev3 20 (eJ G 20 W2)) 27 (eJ G 10 u27)) 28 (eJ G 10 u28)) 29 (eJ G 10 u29)) 30 (eJ G 10 u30)) 31 (eJ G 10 u31)) 32 (eJ G 10 u32)) 33 (eJ G 10 u33)) 24 (eJ G 10 (stA (lad (uRow X) (KEYB K) k).2.2.1 (lad (uRow X) (KEYB K) k).2.2.2))) 25 (eJ G 10 (stB (lad (uRow X) (KEYB K) k).2.2.1 (lad (uRow X) (KEYB K) k).2.2.2))) 22 (eJ G 10 (stC (lad (uRow X) (KEYB K) k).2.2.1 (lad (uRow X) (KEYB K) k).2.2.2 (lad (uRow X) (KEYB K) k).1 (lad (uRow X) (KEYB K) k).2.1))) 23 (eJ G 10 (stD (uRow X) (lad (uRow X) (KEYB K) k).2.2.1 (lad (uRow X) (KEYB K) k).2.2.2 (lad (uRow X) (KEYB K) k).1 (lad (uRow X) (KEYB K) k).2.1))) := hp.2
        have t4_20 : ev4 20 = eJ G 20 W2 := by rw [o4, va_up_ne _ _ (by decide), va_up_ne _ _ (by decide), va_up_ne _ _ (by decide), va_up_ne _ _ (by decide), va_up_ne _ _ (by decide), va_up_ne _ _ (by decide), va_up_ne _ _ (by decide), va_up_ne _ _ (by decide), va_up_ne _ _ (by decide), va_up_ne _ _ (by decide), va_up_ne _ _ (by decide), va_up_self]
        have t4_27 : ev4 27 = eJ G 10 u27 := by rw [o4, va_up_ne _ _ (by decide), va_up_ne _ _ (by decide), va_up_ne _ _ (by decide), va_up_ne _ _ (by decide), va_up_ne _ _ (by decide), va_up_ne _ _ (by decide), va_up_ne _ _ (by decide), va_up_ne _ _ (by decide), va_up_ne _ _ (by decide), va_up_ne _ _ (by decide), va_up_self]
        have t4_28 : ev4 28 = eJ G 10 u28 := by rw [o4, va_up_ne _ _ (by decide), va_up_ne _ _ (by decide), va_up_ne _ _ (by decide), va_up_ne _ _ (by decide), va_up_ne _ _ (by decide), va_up_ne _ _ (by decide), va_up_ne _ _ (by decide), va_up_ne _ _ (by decide), va_up_ne _ _ (by decide), va_up_self]
        have t4_29 : ev4 29 = eJ G 10 u29 := by rw [o4, va_up_ne _ _ (by decide), va_up_ne _ _ (by decide), va_up_ne _ _ (by decide), va_up_ne _ _ (by decide), va_up_ne _ _ (by decide), va_up_ne _ _ (by decide), va_up_ne _ _ (by decide), va_up_ne _ _ (by decide), va_up_self]
        have t4_30 : ev4 30 = eJ G 10 u30 := by rw [o4, va_up_ne _ _ (by decide), va_up_ne _ _ (by decide), va_up_ne _ _ (by decide), va_up_ne _ _ (by decide), va_up_ne _ _ (by decide), va_up_ne _ _ (by decide), va_up_ne _ _ (by decide), va_up_self]
        have t4_31 : ev4 31 = eJ G 10 u31 := by rw [o4, va_up_ne _ _ (by decide), va_up_ne _ _ (by decide), va_up_ne _ _ (by decide), va_up_ne _ _ (by decide), va_up_ne _ _ (by decide), va_up_ne _ _ (by decide), va_up_self]
        have t4_32 : ev4 32 = eJ G 10 u32 := by rw [o4, va_up_ne _ _ (by decide), va_up_ne _ _ (by decide), va_up_ne _ _ (by decide), va_up_ne _ _ (by decide), va_up_ne _ _ (by decide), va_up_self]
        have t4_33 : ev4 33 = eJ G 10 u33 := by rw [o4, va_up_ne _ _ (by decide), va_up_ne _ _ (by decide), va_up_ne _ _ (by decide), va_up_ne _ _ (by decide), va_up_self]
        have t4_24 : ev4 24 = eJ G 10 (stA (lad (uRow X) (KEYB K) k).2.2.1 (lad (uRow X) (KEYB K) k).2.2.2) := by rw [o4, va_up_ne _ _ (by decide), va_up_ne _ _ (by decide), va_up_ne _ _ (by decide), va_up_self]
        have t4_25 : ev4 25 = eJ G 10 (stB (lad (uRow X) (KEYB K) k).2.2.1 (lad (uRow X) (KEYB K) k).2.2.2) := by rw [o4, va_up_ne _ _ (by decide), va_up_ne _ _ (by decide), va_up_self]
        have t4_22 : ev4 22 = eJ G 10 (stC (lad (uRow X) (KEYB K) k).2.2.1 (lad (uRow X) (KEYB K) k).2.2.2 (lad (uRow X) (KEYB K) k).1 (lad (uRow X) (KEYB K) k).2.1) := by rw [o4, va_up_ne _ _ (by decide), va_up_self]
        have t4_23 : ev4 23 = eJ G 10 (stD (uRow X) (lad (uRow X) (KEYB K) k).2.2.1 (lad (uRow X) (KEYB K) k).2.2.2 (lad (uRow X) (KEYB K) k).1 (lad (uRow X) (KEYB K) k).2.1) := by rw [o4, va_up_self]
        have t4_1 := (show ev4 1 = ev3 1 by rw [o4, va_up_ne _ _ (by decide), va_up_ne _ _ (by decide), va_up_ne _ _ (by decide), va_up_ne _ _ (by decide), va_up_ne _ _ (by decide), va_up_ne _ _ (by decide), va_up_ne _ _ (by decide), va_up_ne _ _ (by decide), va_up_ne _ _ (by decide), va_up_ne _ _ (by decide), va_up_ne _ _ (by decide), va_up_ne _ _ (by decide)]).trans t3_1
        have t4_3 := (show ev4 3 = ev3 3 by rw [o4, va_up_ne _ _ (by decide), va_up_ne _ _ (by decide), va_up_ne _ _ (by decide), va_up_ne _ _ (by decide), va_up_ne _ _ (by decide), va_up_ne _ _ (by decide), va_up_ne _ _ (by decide), va_up_ne _ _ (by decide), va_up_ne _ _ (by decide), va_up_ne _ _ (by decide), va_up_ne _ _ (by decide), va_up_ne _ _ (by decide)]).trans t3_3
        have t4_qt := (show ev4 qt = ev3 qt by rw [o4, va_up_ne _ _ (by omega), va_up_ne _ _ (by omega), va_up_ne _ _ (by omega), va_up_ne _ _ (by omega), va_up_ne _ _ (by omega), va_up_ne _ _ (by omega), va_up_ne _ _ (by omega), va_up_ne _ _ (by omega), va_up_ne _ _ (by omega), va_up_ne _ _ (by omega), va_up_ne _ _ (by omega), va_up_ne _ _ (by omega)]).trans t3_qt
        have t4_21 := (show ev4 21 = ev3 21 by rw [o4, va_up_ne _ _ (by decide), va_up_ne _ _ (by decide), va_up_ne _ _ (by decide), va_up_ne _ _ (by decide), va_up_ne _ _ (by decide), va_up_ne _ _ (by decide), va_up_ne _ _ (by decide), va_up_ne _ _ (by decide), va_up_ne _ _ (by decide), va_up_ne _ _ (by decide), va_up_ne _ _ (by decide), va_up_ne _ _ (by decide)]).trans t3_21
        have t4_26 := (show ev4 26 = ev3 26 by rw [o4, va_up_ne _ _ (by decide), va_up_ne _ _ (by decide), va_up_ne _ _ (by decide), va_up_ne _ _ (by decide), va_up_ne _ _ (by decide), va_up_ne _ _ (by decide), va_up_ne _ _ (by decide), va_up_ne _ _ (by decide), va_up_ne _ _ (by decide), va_up_ne _ _ (by decide), va_up_ne _ _ (by decide), va_up_ne _ _ (by decide)]).trans t3_26
        have t4_18 := (show ev4 18 = ev3 18 by rw [o4, va_up_ne _ _ (by decide), va_up_ne _ _ (by decide), va_up_ne _ _ (by decide), va_up_ne _ _ (by decide), va_up_ne _ _ (by decide), va_up_ne _ _ (by decide), va_up_ne _ _ (by decide), va_up_ne _ _ (by decide), va_up_ne _ _ (by decide), va_up_ne _ _ (by decide), va_up_ne _ _ (by decide), va_up_ne _ _ (by decide)]).trans t3_18
        have t4_19 := (show ev4 19 = ev3 19 by rw [o4, va_up_ne _ _ (by decide), va_up_ne _ _ (by decide), va_up_ne _ _ (by decide), va_up_ne _ _ (by decide), va_up_ne _ _ (by decide), va_up_ne _ _ (by decide), va_up_ne _ _ (by decide), va_up_ne _ _ (by decide), va_up_ne _ _ (by decide), va_up_ne _ _ (by decide), va_up_ne _ _ (by decide), va_up_ne _ _ (by decide)]).trans t3_19
        refine lv_goto (tgt := 85) hx hb d_Cv_multipleInto_62 (by decide) ?_
        refine lv_iinc (v := dn d) (lv' := [(4, .int (dn d)), (0, .ref (ad 18)), (1, .ref (ad 1)), (2, .ref (ad 3)), (3, .ref (ad qt))]) hx hb d_Cv_multipleInto_85 hl (k := 0) rfl (dn_dec d) (by decide) rfl (fun ls hl => ?_)
        refine lv_goto (tgt := 15) hx hb d_Cv_multipleInto_88 (by decide) ?_
        have el : (lad (uRow X) (KEYB K) (k + 1)) = ((stC (lad (uRow X) (KEYB K) k).2.2.1 (lad (uRow X) (KEYB K) k).2.2.2 (lad (uRow X) (KEYB K) k).1 (lad (uRow X) (KEYB K) k).2.1), (stD (uRow X) (lad (uRow X) (KEYB K) k).2.2.1 (lad (uRow X) (KEYB K) k).2.2.2 (lad (uRow X) (KEYB K) k).1 (lad (uRow X) (KEYB K) k).2.1), (stA (lad (uRow X) (KEYB K) k).2.2.1 (lad (uRow X) (KEYB K) k).2.2.2), (stB (lad (uRow X) (KEYB K) k).2.2.1 (lad (uRow X) (KEYB K) k).2.2.2)) := if_pos hc
        refine ih (k + 1) (by omega) W2 u27 u28 u29 u30 u31 u32 u33 ev4 H locs ls ?_ h (lv_sub hl [0, 1, 2, 3, 4] rfl)
        rw [el]
        rw [o4, o3]
        funext j
        by_cases c0 : j = 20
        · subst c0; simp [va_up]
        by_cases c1 : j = 27
        · subst c1; simp [va_up]
        by_cases c2 : j = 28
        · subst c2; simp [va_up]
        by_cases c3 : j = 29
        · subst c3; simp [va_up]
        by_cases c4 : j = 30
        · subst c4; simp [va_up]
        by_cases c5 : j = 31
        · subst c5; simp [va_up]
        by_cases c6 : j = 32
        · subst c6; simp [va_up]
        by_cases c7 : j = 33
        · subst c7; simp [va_up]
        by_cases c8 : j = 22
        · subst c8; simp [va_up]
        by_cases c9 : j = 23
        · subst c9; simp [va_up]
        by_cases c10 : j = 24
        · subst c10; simp [va_up]
        by_cases c11 : j = 25
        · subst c11; simp [va_up]
        simp only [va_up, c0, c1, c2, c3, c4, c5, c6, c7, c8, c9, c10, c11, if_false]
  refine loop3 255 0 rfl r20 r27 r28 r29 r30 r31 r32 r33 ev2 H locs ls ?_ h (lv_sub hl [0, 1, 2, 3, 4] rfl)
  rw [va_upi _ 20 t2_20, va_upi _ 27 t2_27, va_upi _ 28 t2_28, va_upi _ 29 t2_29, va_upi _ 30 t2_30, va_upi _ 31 t2_31, va_upi _ 32 t2_32, va_upi _ 33 t2_33]
  exact (by rw [show (lad (uRow X) (KEYB K) 0) = (rowV 1, rowV 0, uRow X, rowV 1) from rfl, va_upi _ 22 t2_22, va_upi _ 23 t2_23, va_upi _ 24 t2_24, va_upi _ 25 t2_25])
end
section
/-! pure: TAG as the class makes it -/
def fRow (K : Nat → Nat) : Row := cry (adBs (FCT K) 0 (rowV 0) 16) 4
def pcs (S F : Row) (X : Nat → Nat) (o sz : Nat) : Row := tms 5 26 5 5 (cry (adBs X o (adB S 1 sz) sz) 4) F
def tgS (F : Row) (X : Nat → Nat) (o n : Nat) : Nat → Row
  | 0 => rowV 0
  | k + 1 => pcs (tgS F X o n k) F X (o + 16 * k) (min 16 (n - 16 * k))
def tagRow (K X : Nat → Nat) (o n : Nat) : Row := cry (adBs K 16 (stl 5 26 5 (tgS (fRow K) X o n ((n + 15) / 16))) 16) 4
/-- TAG's bytes, as the class makes them -/
def TAGB (K X : Nat → Nat) (o n : Nat) : Nat → Nat := wbB 5 (tagRow K X o n)
theorem TAGB_lt (K X : Nat → Nat) (o n j : Nat) : TAGB K X o n j < 256 := Nat.mod_lt _ (by decide)
theorem MULB_lt (K X : Nat → Nat) (j : Nat) : MULB K X j < 256 := Nat.mod_lt _ (by decide)
end
section
theorem jmin_eq {a b : Nat} (ha : a < 2 ^ 31) (hb : b < 2 ^ 31) : (if nI b < nI a then nI b else nI a) = nI (min a b) := by
  by_cases h : b < a
  · rw [if_pos ((nI_ltI hb ha).mpr h), Nat.min_eq_right (by omega)]
  · rw [if_neg (fun q => h ((nI_ltI hb ha).mp q)), Nat.min_eq_left (by omega)]
theorem d_Tg_readFactor_0 : decode c_Tg_readFactor 0 = .ok (.aload_n 1, 1) := by decide +kernel
theorem d_Tg_readFactor_1 : decode c_Tg_readFactor 1 = .ok (.iconst 0, 1) := by decide +kernel
theorem d_Tg_readFactor_2 : decode c_Tg_readFactor 2 = .ok (.aload_n 0, 1) := by decide +kernel
theorem d_Tg_readFactor_3 : decode c_Tg_readFactor 3 = .ok (.getfield 33, 3) := by decide +kernel
theorem d_Tg_readFactor_6 : decode c_Tg_readFactor 6 = .ok (.iconst 0, 1) := by decide +kernel
theorem d_Tg_readFactor_7 : decode c_Tg_readFactor 7 = .ok (.bipush 16, 2) := by decide +kernel
theorem d_Tg_readFactor_9 : decode c_Tg_readFactor 9 = .ok (.invokestatic 67, 3) := by decide +kernel
theorem d_Tg_readFactor_12 : decode c_Tg_readFactor 12 = .ok (.iconst 3, 1) := by decide +kernel
theorem d_Tg_readFactor_13 : decode c_Tg_readFactor 13 = .ok (.istore_n 2, 1) := by decide +kernel
theorem d_Tg_readFactor_14 : decode c_Tg_readFactor 14 = .ok (.iload_n 2, 1) := by decide +kernel
theorem d_Tg_readFactor_15 : decode c_Tg_readFactor 15 = .ok (.bipush 16, 2) := by decide +kernel
theorem d_Tg_readFactor_17 : decode c_Tg_readFactor 17 = .ok (.if_icmp .ge 21, 3) := by decide +kernel
theorem d_Tg_readFactor_20 : decode c_Tg_readFactor 20 = .ok (.aload_n 0, 1) := by decide +kernel
theorem d_Tg_readFactor_21 : decode c_Tg_readFactor 21 = .ok (.getfield 33, 3) := by decide +kernel
theorem d_Tg_readFactor_24 : decode c_Tg_readFactor 24 = .ok (.iload_n 2, 1) := by decide +kernel
theorem d_Tg_readFactor_25 : decode c_Tg_readFactor 25 = .ok (.dup2, 1) := by decide +kernel
theorem d_Tg_readFactor_26 : decode c_Tg_readFactor 26 = .ok (.baload, 1) := by decide +kernel
theorem d_Tg_readFactor_27 : decode c_Tg_readFactor 27 = .ok (.bipush 15, 2) := by decide +kernel
theorem d_Tg_readFactor_29 : decode c_Tg_readFactor 29 = .ok (.iand, 1) := by decide +kernel
theorem d_Tg_readFactor_30 : decode c_Tg_readFactor 30 = .ok (.i2b, 1) := by decide +kernel
theorem d_Tg_readFactor_31 : decode c_Tg_readFactor 31 = .ok (.bastore, 1) := by decide +kernel
theorem d_Tg_readFactor_32 : decode c_Tg_readFactor 32 = .ok (.iinc 2 4, 3) := by decide +kernel
theorem d_Tg_readFactor_35 : decode c_Tg_readFactor 35 = .ok (.goto (-21), 3) := by decide +kernel
theorem d_Tg_readFactor_38 : decode c_Tg_readFactor 38 = .ok (.iconst 4, 1) := by decide +kernel
theorem d_Tg_readFactor_39 : decode c_Tg_readFactor 39 = .ok (.istore_n 2, 1) := by decide +kernel
theorem d_Tg_readFactor_40 : decode c_Tg_readFactor 40 = .ok (.iload_n 2, 1) := by decide +kernel
theorem d_Tg_readFactor_41 : decode c_Tg_readFactor 41 = .ok (.bipush 16, 2) := by decide +kernel
theorem d_Tg_readFactor_43 : decode c_Tg_readFactor 43 = .ok (.if_icmp .ge 22, 3) := by decide +kernel
theorem d_Tg_readFactor_46 : decode c_Tg_readFactor 46 = .ok (.aload_n 0, 1) := by decide +kernel
theorem d_Tg_readFactor_47 : decode c_Tg_readFactor 47 = .ok (.getfield 33, 3) := by decide +kernel
theorem d_Tg_readFactor_50 : decode c_Tg_readFactor 50 = .ok (.iload_n 2, 1) := by decide +kernel
theorem d_Tg_readFactor_51 : decode c_Tg_readFactor 51 = .ok (.dup2, 1) := by decide +kernel
theorem d_Tg_readFactor_52 : decode c_Tg_readFactor 52 = .ok (.baload, 1) := by decide +kernel
theorem d_Tg_readFactor_53 : decode c_Tg_readFactor 53 = .ok (.sipush 252, 3) := by decide +kernel
theorem d_Tg_readFactor_56 : decode c_Tg_readFactor 56 = .ok (.iand, 1) := by decide +kernel
theorem d_Tg_readFactor_57 : decode c_Tg_readFactor 57 = .ok (.i2b, 1) := by decide +kernel
theorem d_Tg_readFactor_58 : decode c_Tg_readFactor 58 = .ok (.bastore, 1) := by decide +kernel
theorem d_Tg_readFactor_59 : decode c_Tg_readFactor 59 = .ok (.iinc 2 4, 3) := by decide +kernel
theorem d_Tg_readFactor_62 : decode c_Tg_readFactor 62 = .ok (.goto (-22), 3) := by decide +kernel
theorem d_Tg_readFactor_65 : decode c_Tg_readFactor 65 = .ok (.aload_n 0, 1) := by decide +kernel
theorem d_Tg_readFactor_66 : decode c_Tg_readFactor 66 = .ok (.getfield 16, 3) := by decide +kernel
theorem d_Tg_readFactor_69 : decode c_Tg_readFactor 69 = .ok (.aload_n 0, 1) := by decide +kernel
theorem d_Tg_readFactor_70 : decode c_Tg_readFactor 70 = .ok (.getfield 30, 3) := by decide +kernel
theorem d_Tg_readFactor_73 : decode c_Tg_readFactor 73 = .ok (.iconst 0, 1) := by decide +kernel
theorem d_Tg_readFactor_74 : decode c_Tg_readFactor 74 = .ok (.invokevirtual 41, 3) := by decide +kernel
theorem d_Tg_readFactor_77 : decode c_Tg_readFactor 77 = .ok (.aload_n 0, 1) := by decide +kernel
theorem d_Tg_readFactor_78 : decode c_Tg_readFactor 78 = .ok (.getfield 16, 3) := by decide +kernel
theorem d_Tg_readFactor_81 : decode c_Tg_readFactor 81 = .ok (.aload_n 0, 1) := by decide +kernel
theorem d_Tg_readFactor_82 : decode c_Tg_readFactor 82 = .ok (.getfield 33, 3) := by decide +kernel
theorem d_Tg_readFactor_85 : decode c_Tg_readFactor 85 = .ok (.iconst 0, 1) := by decide +kernel
theorem d_Tg_readFactor_86 : decode c_Tg_readFactor 86 = .ok (.bipush 16, 2) := by decide +kernel
theorem d_Tg_readFactor_88 : decode c_Tg_readFactor 88 = .ok (.aload_n 0, 1) := by decide +kernel
theorem d_Tg_readFactor_89 : decode c_Tg_readFactor 89 = .ok (.getfield 30, 3) := by decide +kernel
theorem d_Tg_readFactor_92 : decode c_Tg_readFactor 92 = .ok (.invokevirtual 59, 3) := by decide +kernel
theorem d_Tg_readFactor_95 : decode c_Tg_readFactor 95 = .ok (.return_, 1) := by decide +kernel
set_option maxRecDepth 100000 in
set_option maxHeartbeats 4000000 in
/-- r, out of the key -/
theorem m_Tg_readFactor (l : Launch) (G : wG) (A : Nat → Prop) (ad : Nat → Nat) (ev : Nat → va_E) (qk Nk : Nat) (K BY : Nat → Nat) (r16 : Row) (h12 : ev 12 = eO 3 [.ref (ad 13), .ref (ad 15), .ref (ad 16), .ref (ad 17)]) (h13 : ev 13 = eO 1 [.int (nI 5), .int (nI 26), .long 5, .long 5, .ref (ad 14)]) (hqk : qk < 52) (hk : ev qk = eB G Nk (bs K)) (hK : ∀ j, K j < 256) (h16 : ev 16 = eJ G 5 r16) (h17 : ev 17 = eB G 16 (bs BY)) (nk : 16 ≤ Nk) (nk2 : Nk < 2 ^ 30) (k17 : qk ≠ 17) : wM l y_Tg_readFactor w_Tg_readFactor ({ frames := 9, cells := 0, slots := 0, locals := 300 }) G A 52 ad ev [.ref (ad 12), .ref (ad qk)] (fun ov ev' => ov = none ∧ ev' = va_up (va_up ev 17 (eB G 16 (bs (FCT K)))) 16 (eJ G 5 (fRow K))) := by
  refine wv_ofW (cc := c_Tg_readFactor) (maxL := 3) (ret := none) (by decide) rfl (Nat.le_of_ble_eq_true rfl) ?_
  intro p e s m below meth c ls hx hb hr hml hts hown hlocks hini h hl
  have hl : lv_has ls 3 [(0, .ref (ad 12)), (1, .ref (ad qk))] := hl
  refine lv_aload_n hx hb d_Tg_readFactor_0 rfl (lv_at hl 1 rfl) ?_
  refine lv_iconst (v := nI (0)) hx hb d_Tg_readFactor_1 (by decide) ?_
  refine lv_aload_n hx hb d_Tg_readFactor_2 rfl (lv_at hl 0 rfl) ?_
  refine wv_getf hx hb h 12 (by decide) (fs := [.ref (ad 13), .ref (ad 15), .ref (ad 16), .ref (ad 17)]) h12 hts (fun w hw => List.mem_cons_of_mem _ (fW_Tg w hw)) hown (ci := 3) (C := "NonceBox$Tagger") (T := fT_Tg) (N := 4) rfl 3 (by decide) (hts _ (List.mem_cons_of_mem _ kf_Tg_33)) rfl (v := .ref (ad 17)) rfl d_Tg_readFactor_3 ?_
  refine lv_iconst (v := nI (0)) hx hb d_Tg_readFactor_6 (by decide) ?_
  refine lv_bipush (v := nI (16)) hx hb d_Tg_readFactor_7 (by decide) ?_
  refine wv_copyb hx hb (hml.trans hl.1.symm) h hown (hts _ (List.mem_cons_of_mem _ kl_Tg_67)) (hts _ (List.mem_cons_of_mem _ kn_Sy_arraycopy)) (hts _ (List.mem_cons_of_mem _ ks_Sy_arraycopy)) (hts _ (List.mem_cons_of_mem _ ki_Sy)) qk 17 hqk (by decide) (f := (bs K)) (g := (bs BY)) hk h17 (a := 0) (b := 0) (d := 16) rfl rfl rfl (by omega) (by omega) (by omega) (by decide) (fun i _ => bs_fit _ _) (by decide) (by decide) d_Tg_readFactor_9 (fun H locs h => ?_)
  obtain ⟨ev1, o1⟩ : ∃ z, z = va_up ev 17 (eB G 16 (va_cpy (bs K) (bs BY) 0 0 16)) := ⟨_, rfl⟩
  rw [← o1] at h
  have t1_17 : ev1 17 = eB G 16 (va_cpy (bs K) (bs BY) 0 0 16) := by rw [o1, va_up_self]
  have t1_qk := (show ev1 qk = ev qk by rw [o1, va_up_ne _ _ k17]).trans hk
  have t1_16 := (show ev1 16 = ev 16 by rw [o1, va_up_ne _ _ (by decide)]).trans h16
  have t1_12 := (show ev1 12 = ev 12 by rw [o1, va_up_ne _ _ (by decide)]).trans h12
  have t1_13 := (show ev1 13 = ev 13 by rw [o1, va_up_ne _ _ (by decide)]).trans h13
  have h := wT_eqB (g := (bs K)) h 17 (by decide) t1_17 (fun j hj => by rw [pk_cpy_in (Nat.zero_le _) (by omega), Nat.zero_add, Nat.sub_zero])
  obtain ⟨ev2, o2⟩ : ∃ z, z = va_up ev1 17 (eB G 16 (bs K)) := ⟨_, rfl⟩
  rw [← o2] at h
  have t2_17 : ev2 17 = eB G 16 (bs K) := by rw [o2, va_up_self]
  have t2_qk := (show ev2 qk = ev1 qk by rw [o2, va_up_ne _ _ k17]).trans t1_qk
  have t2_16 := (show ev2 16 = ev1 16 by rw [o2, va_up_ne _ _ (by decide)]).trans t1_16
  have t2_12 := (show ev2 12 = ev1 12 by rw [o2, va_up_ne _ _ (by decide)]).trans t1_12
  have t2_13 := (show ev2 13 = ev1 13 by rw [o2, va_up_ne _ _ (by decide)]).trans t1_13
  refine lv_iconst (v := nI (3)) hx hb d_Tg_readFactor_12 (by decide) ?_
  refine lv_istore_n (lv' := [(2, .int (nI (3))), (0, .ref (ad 12)), (1, .ref (ad qk))]) hx hb d_Tg_readFactor_13 rfl hl (by decide) rfl (fun ls hl => ?_)
  refine lv_iload_n hx hb d_Tg_readFactor_14 rfl (lv_at hl 0 rfl) ?_
  refine lv_bipush (v := nI (16)) hx hb d_Tg_readFactor_15 (by decide) ?_
  refine lv_icmp_ge (tgt := 38) hx hb d_Tg_readFactor_17 (by decide) (fun hc => absurd hc (by decide)) (fun _ => ?_)
  refine lv_aload_n hx hb d_Tg_readFactor_20 rfl (lv_at hl 1 rfl) ?_
  refine wv_getf hx hb h 12 (by decide) (fs := [.ref (ad 13), .ref (ad 15), .ref (ad 16), .ref (ad 17)]) t2_12 hts (fun w hw => List.mem_cons_of_mem _ (fW_Tg w hw)) hown (ci := 3) (C := "NonceBox$Tagger") (T := fT_Tg) (N := 4) rfl 3 (by decide) (hts _ (List.mem_cons_of_mem _ kf_Tg_33)) rfl (v := .ref (ad 17)) rfl d_Tg_readFactor_21 ?_
  refine lv_iload_n hx hb d_Tg_readFactor_24 rfl (lv_at hl 0 rfl) ?_
  refine lv_dup2_11 hx hb d_Tg_readFactor_25 rfl rfl ?_
  refine wv_bald hx hb h 17 (by decide) (f := (bs K)) t2_17 (k := 3) rfl (by decide) (by decide) d_Tg_readFactor_26 ?_
  refine lv_bipush (v := (15 : Int32)) hx hb d_Tg_readFactor_27 (by decide) ?_
  refine lv_iand hx hb d_Tg_readFactor_29 ?_
  refine lv_i2b hx hb d_Tg_readFactor_30 rfl ?_
  refine wv_bast hx hb h 17 (by decide) (f := (bs K)) t2_17 (k := 3) rfl (by decide) (by decide) d_Tg_readFactor_31 (fun H locs h => ?_)
  obtain ⟨ev3, o3⟩ : ∃ z, z = va_up ev2 17 (eB G 16 (va_up ((bs K)) 3 (vp_nar .byte (((((bs K)) 3) &&& (15 : Int32)).toInt8.toInt32)))) := ⟨_, rfl⟩
  rw [← o3] at h
  have t3_17 : ev3 17 = eB G 16 (va_up ((bs K)) 3 (vp_nar .byte (((((bs K)) 3) &&& (15 : Int32)).toInt8.toInt32))) := by rw [o3, va_up_self]
  have t3_16 := (show ev3 16 = ev2 16 by rw [o3, va_up_ne _ _ (by decide)]).trans t2_16
  have t3_12 := (show ev3 12 = ev2 12 by rw [o3, va_up_ne _ _ (by decide)]).trans t2_12
  have t3_13 := (show ev3 13 = ev2 13 by rw [o3, va_up_ne _ _ (by decide)]).trans t2_13
  rw [bs_up K 3 (K 3 % 16) (show vp_nar .byte (bs K 3 &&& (15 : Int32)).toInt8.toInt32 = sb_b (K 3 % 16) from sb_m15 _ (hK 3))] at o3 t3_17
  refine lv_iinc (v := nI (7)) (lv' := [(2, .int (nI (7))), (0, .ref (ad 12)), (1, .ref (ad qk))]) hx hb d_Tg_readFactor_32 hl (k := 0) rfl (by decide) (by decide) rfl (fun ls hl => ?_)
  refine lv_goto (tgt := 14) hx hb d_Tg_readFactor_35 (by decide) ?_
  refine lv_iload_n hx hb d_Tg_readFactor_14 rfl (lv_at hl 0 rfl) ?_
  refine lv_bipush (v := nI (16)) hx hb d_Tg_readFactor_15 (by decide) ?_
  refine lv_icmp_ge (tgt := 38) hx hb d_Tg_readFactor_17 (by decide) (fun hc => absurd hc (by decide)) (fun _ => ?_)
  refine lv_aload_n hx hb d_Tg_readFactor_20 rfl (lv_at hl 1 rfl) ?_
  refine wv_getf hx hb h 12 (by decide) (fs := [.ref (ad 13), .ref (ad 15), .ref (ad 16), .ref (ad 17)]) t3_12 hts (fun w hw => List.mem_cons_of_mem _ (fW_Tg w hw)) hown (ci := 3) (C := "NonceBox$Tagger") (T := fT_Tg) (N := 4) rfl 3 (by decide) (hts _ (List.mem_cons_of_mem _ kf_Tg_33)) rfl (v := .ref (ad 17)) rfl d_Tg_readFactor_21 ?_
  refine lv_iload_n hx hb d_Tg_readFactor_24 rfl (lv_at hl 0 rfl) ?_
  refine lv_dup2_11 hx hb d_Tg_readFactor_25 rfl rfl ?_
  refine wv_bald hx hb h 17 (by decide) (f := (bs (va_up K 3 (K 3 % 16)))) t3_17 (k := 7) rfl (by decide) (by decide) d_Tg_readFactor_26 ?_
  refine lv_bipush (v := (15 : Int32)) hx hb d_Tg_readFactor_27 (by decide) ?_
  refine lv_iand hx hb d_Tg_readFactor_29 ?_
  refine lv_i2b hx hb d_Tg_readFactor_30 rfl ?_
  refine wv_bast hx hb h 17 (by decide) (f := (bs (va_up K 3 (K 3 % 16)))) t3_17 (k := 7) rfl (by decide) (by decide) d_Tg_readFactor_31 (fun H locs h => ?_)
  obtain ⟨ev4, o4⟩ : ∃ z, z = va_up ev3 17 (eB G 16 (va_up ((bs (va_up K 3 (K 3 % 16)))) 7 (vp_nar .byte (((((bs (va_up K 3 (K 3 % 16)))) 7) &&& (15 : Int32)).toInt8.toInt32)))) := ⟨_, rfl⟩
  rw [← o4] at h
  have t4_17 : ev4 17 = eB G 16 (va_up ((bs (va_up K 3 (K 3 % 16)))) 7 (vp_nar .byte (((((bs (va_up K 3 (K 3 % 16)))) 7) &&& (15 : Int32)).toInt8.toInt32))) := by rw [o4, va_up_self]
  have t4_16 := (show ev4 16 = ev3 16 by rw [o4, va_up_ne _ _ (by decide)]).trans t3_16
  have t4_12 := (show ev4 12 = ev3 12 by rw [o4, va_up_ne _ _ (by decide)]).trans t3_12
  have t4_13 := (show ev4 13 = ev3 13 by rw [o4, va_up_ne _ _ (by decide)]).trans t3_13
  rw [bs_up (va_up K 3 (K 3 % 16)) 7 (K 7 % 16) (show vp_nar .byte (bs (va_up K 3 (K 3 % 16)) 7 &&& (15 : Int32)).toInt8.toInt32 = sb_b (K 7 % 16) from sb_m15 _ (hK 7))] at o4 t4_17
  refine lv_iinc (v := nI (11)) (lv' := [(2, .int (nI (11))), (0, .ref (ad 12)), (1, .ref (ad qk))]) hx hb d_Tg_readFactor_32 hl (k := 0) rfl (by decide) (by decide) rfl (fun ls hl => ?_)
  refine lv_goto (tgt := 14) hx hb d_Tg_readFactor_35 (by decide) ?_
  refine lv_iload_n hx hb d_Tg_readFactor_14 rfl (lv_at hl 0 rfl) ?_
  refine lv_bipush (v := nI (16)) hx hb d_Tg_readFactor_15 (by decide) ?_
  refine lv_icmp_ge (tgt := 38) hx hb d_Tg_readFactor_17 (by decide) (fun hc => absurd hc (by decide)) (fun _ => ?_)
  refine lv_aload_n hx hb d_Tg_readFactor_20 rfl (lv_at hl 1 rfl) ?_
  refine wv_getf hx hb h 12 (by decide) (fs := [.ref (ad 13), .ref (ad 15), .ref (ad 16), .ref (ad 17)]) t4_12 hts (fun w hw => List.mem_cons_of_mem _ (fW_Tg w hw)) hown (ci := 3) (C := "NonceBox$Tagger") (T := fT_Tg) (N := 4) rfl 3 (by decide) (hts _ (List.mem_cons_of_mem _ kf_Tg_33)) rfl (v := .ref (ad 17)) rfl d_Tg_readFactor_21 ?_
  refine lv_iload_n hx hb d_Tg_readFactor_24 rfl (lv_at hl 0 rfl) ?_
  refine lv_dup2_11 hx hb d_Tg_readFactor_25 rfl rfl ?_
  refine wv_bald hx hb h 17 (by decide) (f := (bs (va_up (va_up K 3 (K 3 % 16)) 7 (K 7 % 16)))) t4_17 (k := 11) rfl (by decide) (by decide) d_Tg_readFactor_26 ?_
  refine lv_bipush (v := (15 : Int32)) hx hb d_Tg_readFactor_27 (by decide) ?_
  refine lv_iand hx hb d_Tg_readFactor_29 ?_
  refine lv_i2b hx hb d_Tg_readFactor_30 rfl ?_
  refine wv_bast hx hb h 17 (by decide) (f := (bs (va_up (va_up K 3 (K 3 % 16)) 7 (K 7 % 16)))) t4_17 (k := 11) rfl (by decide) (by decide) d_Tg_readFactor_31 (fun H locs h => ?_)
  obtain ⟨ev5, o5⟩ : ∃ z, z = va_up ev4 17 (eB G 16 (va_up ((bs (va_up (va_up K 3 (K 3 % 16)) 7 (K 7 % 16)))) 11 (vp_nar .byte (((((bs (va_up (va_up K 3 (K 3 % 16)) 7 (K 7 % 16)))) 11) &&& (15 : Int32)).toInt8.toInt32)))) := ⟨_, rfl⟩
  rw [← o5] at h
  have t5_17 : ev5 17 = eB G 16 (va_up ((bs (va_up (va_up K 3 (K 3 % 16)) 7 (K 7 % 16)))) 11 (vp_nar .byte (((((bs (va_up (va_up K 3 (K 3 % 16)) 7 (K 7 % 16)))) 11) &&& (15 : Int32)).toInt8.toInt32))) := by rw [o5, va_up_self]
  have t5_16 := (show ev5 16 = ev4 16 by rw [o5, va_up_ne _ _ (by decide)]).trans t4_16
  have t5_12 := (show ev5 12 = ev4 12 by rw [o5, va_up_ne _ _ (by decide)]).trans t4_12
  have t5_13 := (show ev5 13 = ev4 13 by rw [o5, va_up_ne _ _ (by decide)]).trans t4_13
  rw [bs_up (va_up (va_up K 3 (K 3 % 16)) 7 (K 7 % 16)) 11 (K 11 % 16) (show vp_nar .byte (bs (va_up (va_up K 3 (K 3 % 16)) 7 (K 7 % 16)) 11 &&& (15 : Int32)).toInt8.toInt32 = sb_b (K 11 % 16) from sb_m15 _ (hK 11))] at o5 t5_17
  refine lv_iinc (v := nI (15)) (lv' := [(2, .int (nI (15))), (0, .ref (ad 12)), (1, .ref (ad qk))]) hx hb d_Tg_readFactor_32 hl (k := 0) rfl (by decide) (by decide) rfl (fun ls hl => ?_)
  refine lv_goto (tgt := 14) hx hb d_Tg_readFactor_35 (by decide) ?_
  refine lv_iload_n hx hb d_Tg_readFactor_14 rfl (lv_at hl 0 rfl) ?_
  refine lv_bipush (v := nI (16)) hx hb d_Tg_readFactor_15 (by decide) ?_
  refine lv_icmp_ge (tgt := 38) hx hb d_Tg_readFactor_17 (by decide) (fun hc => absurd hc (by decide)) (fun _ => ?_)
  refine lv_aload_n hx hb d_Tg_readFactor_20 rfl (lv_at hl 1 rfl) ?_
  refine wv_getf hx hb h 12 (by decide) (fs := [.ref (ad 13), .ref (ad 15), .ref (ad 16), .ref (ad 17)]) t5_12 hts (fun w hw => List.mem_cons_of_mem _ (fW_Tg w hw)) hown (ci := 3) (C := "NonceBox$Tagger") (T := fT_Tg) (N := 4) rfl 3 (by decide) (hts _ (List.mem_cons_of_mem _ kf_Tg_33)) rfl (v := .ref (ad 17)) rfl d_Tg_readFactor_21 ?_
  refine lv_iload_n hx hb d_Tg_readFactor_24 rfl (lv_at hl 0 rfl) ?_
  refine lv_dup2_11 hx hb d_Tg_readFactor_25 rfl rfl ?_
  refine wv_bald hx hb h 17 (by decide) (f := (bs (va_up (va_up (va_up K 3 (K 3 % 16)) 7 (K 7 % 16)) 11 (K 11 % 16)))) t5_17 (k := 15) rfl (by decide) (by decide) d_Tg_readFactor_26 ?_
  refine lv_bipush (v := (15 : Int32)) hx hb d_Tg_readFactor_27 (by decide) ?_
  refine lv_iand hx hb d_Tg_readFactor_29 ?_
  refine lv_i2b hx hb d_Tg_readFactor_30 rfl ?_
  refine wv_bast hx hb h 17 (by decide) (f := (bs (va_up (va_up (va_up K 3 (K 3 % 16)) 7 (K 7 % 16)) 11 (K 11 % 16)))) t5_17 (k := 15) rfl (by decide) (by decide) d_Tg_readFactor_31 (fun H locs h => ?_)
  obtain ⟨ev6, o6⟩ : ∃ z, z = va_up ev5 17 (eB G 16 (va_up ((bs (va_up (va_up (va_up K 3 (K 3 % 16)) 7 (K 7 % 16)) 11 (K 11 % 16)))) 15 (vp_nar .byte (((((bs (va_up (va_up (va_up K 3 (K 3 % 16)) 7 (K 7 % 16)) 11 (K 11 % 16)))) 15) &&& (15 : Int32)).toInt8.toInt32)))) := ⟨_, rfl⟩
  rw [← o6] at h
  have t6_17 : ev6 17 = eB G 16 (va_up ((bs (va_up (va_up (va_up K 3 (K 3 % 16)) 7 (K 7 % 16)) 11 (K 11 % 16)))) 15 (vp_nar .byte (((((bs (va_up (va_up (va_up K 3 (K 3 % 16)) 7 (K 7 % 16)) 11 (K 11 % 16)))) 15) &&& (15 : Int32)).toInt8.toInt32))) := by rw [o6, va_up_self]
  have t6_16 := (show ev6 16 = ev5 16 by rw [o6, va_up_ne _ _ (by decide)]).trans t5_16
  have t6_12 := (show ev6 12 = ev5 12 by rw [o6, va_up_ne _ _ (by decide)]).trans t5_12
  have t6_13 := (show ev6 13 = ev5 13 by rw [o6, va_up_ne _ _ (by decide)]).trans t5_13
  rw [bs_up (va_up (va_up (va_up K 3 (K 3 % 16)) 7 (K 7 % 16)) 11 (K 11 % 16)) 15 (K 15 % 16) (show vp_nar .byte (bs (va_up (va_up (va_up K 3 (K 3 % 16)) 7 (K 7 % 16)) 11 (K 11 % 16)) 15 &&& (15 : Int32)).toInt8.toInt32 = sb_b (K 15 % 16) from sb_m15 _ (hK 15))] at o6 t6_17
  refine lv_iinc (v := nI (19)) (lv' := [(2, .int (nI (19))), (0, .ref (ad 12)), (1, .ref (ad qk))]) hx hb d_Tg_readFactor_32 hl (k := 0) rfl (by decide) (by decide) rfl (fun ls hl => ?_)
  refine lv_goto (tgt := 14) hx hb d_Tg_readFactor_35 (by decide) ?_
  refine lv_iload_n hx hb d_Tg_readFactor_14 rfl (lv_at hl 0 rfl) ?_
  refine lv_bipush (v := nI (16)) hx hb d_Tg_readFactor_15 (by decide) ?_
  refine lv_icmp_ge (tgt := 38) hx hb d_Tg_readFactor_17 (by decide) (fun _ => ?_) (fun hc => absurd (by decide) hc)
  refine lv_iconst (v := nI (4)) hx hb d_Tg_readFactor_38 (by decide) ?_
  refine lv_istore_n (lv' := [(2, .int (nI (4))), (0, .ref (ad 12)), (1, .ref (ad qk))]) hx hb d_Tg_readFactor_39 rfl hl (by decide) rfl (fun ls hl => ?_)
  refine lv_iload_n hx hb d_Tg_readFactor_40 rfl (lv_at hl 0 rfl) ?_
  refine lv_bipush (v := nI (16)) hx hb d_Tg_readFactor_41 (by decide) ?_
  refine lv_icmp_ge (tgt := 65) hx hb d_Tg_readFactor_43 (by decide) (fun hc => absurd hc (by decide)) (fun _ => ?_)
  refine lv_aload_n hx hb d_Tg_readFactor_46 rfl (lv_at hl 1 rfl) ?_
  refine wv_getf hx hb h 12 (by decide) (fs := [.ref (ad 13), .ref (ad 15), .ref (ad 16), .ref (ad 17)]) t6_12 hts (fun w hw => List.mem_cons_of_mem _ (fW_Tg w hw)) hown (ci := 3) (C := "NonceBox$Tagger") (T := fT_Tg) (N := 4) rfl 3 (by decide) (hts _ (List.mem_cons_of_mem _ kf_Tg_33)) rfl (v := .ref (ad 17)) rfl d_Tg_readFactor_47 ?_
  refine lv_iload_n hx hb d_Tg_readFactor_50 rfl (lv_at hl 0 rfl) ?_
  refine lv_dup2_11 hx hb d_Tg_readFactor_51 rfl rfl ?_
  refine wv_bald hx hb h 17 (by decide) (f := (bs (va_up (va_up (va_up (va_up K 3 (K 3 % 16)) 7 (K 7 % 16)) 11 (K 11 % 16)) 15 (K 15 % 16)))) t6_17 (k := 4) rfl (by decide) (by decide) d_Tg_readFactor_52 ?_
  refine lv_sipush (v := (252 : Int32)) hx hb d_Tg_readFactor_53 (by decide) ?_
  refine lv_iand hx hb d_Tg_readFactor_56 ?_
  refine lv_i2b hx hb d_Tg_readFactor_57 rfl ?_
  refine wv_bast hx hb h 17 (by decide) (f := (bs (va_up (va_up (va_up (va_up K 3 (K 3 % 16)) 7 (K 7 % 16)) 11 (K 11 % 16)) 15 (K 15 % 16)))) t6_17 (k := 4) rfl (by decide) (by decide) d_Tg_readFactor_58 (fun H locs h => ?_)
  obtain ⟨ev7, o7⟩ : ∃ z, z = va_up ev6 17 (eB G 16 (va_up ((bs (va_up (va_up (va_up (va_up K 3 (K 3 % 16)) 7 (K 7 % 16)) 11 (K 11 % 16)) 15 (K 15 % 16)))) 4 (vp_nar .byte (((((bs (va_up (va_up (va_up (va_up K 3 (K 3 % 16)) 7 (K 7 % 16)) 11 (K 11 % 16)) 15 (K 15 % 16)))) 4) &&& (252 : Int32)).toInt8.toInt32)))) := ⟨_, rfl⟩
  rw [← o7] at h
  have t7_17 : ev7 17 = eB G 16 (va_up ((bs (va_up (va_up (va_up (va_up K 3 (K 3 % 16)) 7 (K 7 % 16)) 11 (K 11 % 16)) 15 (K 15 % 16)))) 4 (vp_nar .byte (((((bs (va_up (va_up (va_up (va_up K 3 (K 3 % 16)) 7 (K 7 % 16)) 11 (K 11 % 16)) 15 (K 15 % 16)))) 4) &&& (252 : Int32)).toInt8.toInt32))) := by rw [o7, va_up_self]
  have t7_16 := (show ev7 16 = ev6 16 by rw [o7, va_up_ne _ _ (by decide)]).trans t6_16
  have t7_12 := (show ev7 12 = ev6 12 by rw [o7, va_up_ne _ _ (by decide)]).trans t6_12
  have t7_13 := (show ev7 13 = ev6 13 by rw [o7, va_up_ne _ _ (by decide)]).trans t6_13
  rw [bs_up (va_up (va_up (va_up (va_up K 3 (K 3 % 16)) 7 (K 7 % 16)) 11 (K 11 % 16)) 15 (K 15 % 16)) 4 (K 4 / 4 * 4) (show vp_nar .byte (bs (va_up (va_up (va_up (va_up K 3 (K 3 % 16)) 7 (K 7 % 16)) 11 (K 11 % 16)) 15 (K 15 % 16)) 4 &&& (252 : Int32)).toInt8.toInt32 = sb_b (K 4 / 4 * 4) from sb_m252 _ (hK 4))] at o7 t7_17
  refine lv_iinc (v := nI (8)) (lv' := [(2, .int (nI (8))), (0, .ref (ad 12)), (1, .ref (ad qk))]) hx hb d_Tg_readFactor_59 hl (k := 0) rfl (by decide) (by decide) rfl (fun ls hl => ?_)
  refine lv_goto (tgt := 40) hx hb d_Tg_readFactor_62 (by decide) ?_
  refine lv_iload_n hx hb d_Tg_readFactor_40 rfl (lv_at hl 0 rfl) ?_
  refine lv_bipush (v := nI (16)) hx hb d_Tg_readFactor_41 (by decide) ?_
  refine lv_icmp_ge (tgt := 65) hx hb d_Tg_readFactor_43 (by decide) (fun hc => absurd hc (by decide)) (fun _ => ?_)
  refine lv_aload_n hx hb d_Tg_readFactor_46 rfl (lv_at hl 1 rfl) ?_
  refine wv_getf hx hb h 12 (by decide) (fs := [.ref (ad 13), .ref (ad 15), .ref (ad 16), .ref (ad 17)]) t7_12 hts (fun w hw => List.mem_cons_of_mem _ (fW_Tg w hw)) hown (ci := 3) (C := "NonceBox$Tagger") (T := fT_Tg) (N := 4) rfl 3 (by decide) (hts _ (List.mem_cons_of_mem _ kf_Tg_33)) rfl (v := .ref (ad 17)) rfl d_Tg_readFactor_47 ?_
  refine lv_iload_n hx hb d_Tg_readFactor_50 rfl (lv_at hl 0 rfl) ?_
  refine lv_dup2_11 hx hb d_Tg_readFactor_51 rfl rfl ?_
  refine wv_bald hx hb h 17 (by decide) (f := (bs (va_up (va_up (va_up (va_up (va_up K 3 (K 3 % 16)) 7 (K 7 % 16)) 11 (K 11 % 16)) 15 (K 15 % 16)) 4 (K 4 / 4 * 4)))) t7_17 (k := 8) rfl (by decide) (by decide) d_Tg_readFactor_52 ?_
  refine lv_sipush (v := (252 : Int32)) hx hb d_Tg_readFactor_53 (by decide) ?_
  refine lv_iand hx hb d_Tg_readFactor_56 ?_
  refine lv_i2b hx hb d_Tg_readFactor_57 rfl ?_
  refine wv_bast hx hb h 17 (by decide) (f := (bs (va_up (va_up (va_up (va_up (va_up K 3 (K 3 % 16)) 7 (K 7 % 16)) 11 (K 11 % 16)) 15 (K 15 % 16)) 4 (K 4 / 4 * 4)))) t7_17 (k := 8) rfl (by decide) (by decide) d_Tg_readFactor_58 (fun H locs h => ?_)
  obtain ⟨ev8, o8⟩ : ∃ z, z = va_up ev7 17 (eB G 16 (va_up ((bs (va_up (va_up (va_up (va_up (va_up K 3 (K 3 % 16)) 7 (K 7 % 16)) 11 (K 11 % 16)) 15 (K 15 % 16)) 4 (K 4 / 4 * 4)))) 8 (vp_nar .byte (((((bs (va_up (va_up (va_up (va_up (va_up K 3 (K 3 % 16)) 7 (K 7 % 16)) 11 (K 11 % 16)) 15 (K 15 % 16)) 4 (K 4 / 4 * 4)))) 8) &&& (252 : Int32)).toInt8.toInt32)))) := ⟨_, rfl⟩
  rw [← o8] at h
  have t8_17 : ev8 17 = eB G 16 (va_up ((bs (va_up (va_up (va_up (va_up (va_up K 3 (K 3 % 16)) 7 (K 7 % 16)) 11 (K 11 % 16)) 15 (K 15 % 16)) 4 (K 4 / 4 * 4)))) 8 (vp_nar .byte (((((bs (va_up (va_up (va_up (va_up (va_up K 3 (K 3 % 16)) 7 (K 7 % 16)) 11 (K 11 % 16)) 15 (K 15 % 16)) 4 (K 4 / 4 * 4)))) 8) &&& (252 : Int32)).toInt8.toInt32))) := by rw [o8, va_up_self]
  have t8_16 := (show ev8 16 = ev7 16 by rw [o8, va_up_ne _ _ (by decide)]).trans t7_16
  have t8_12 := (show ev8 12 = ev7 12 by rw [o8, va_up_ne _ _ (by decide)]).trans t7_12
  have t8_13 := (show ev8 13 = ev7 13 by rw [o8, va_up_ne _ _ (by decide)]).trans t7_13
  rw [bs_up (va_up (va_up (va_up (va_up (va_up K 3 (K 3 % 16)) 7 (K 7 % 16)) 11 (K 11 % 16)) 15 (K 15 % 16)) 4 (K 4 / 4 * 4)) 8 (K 8 / 4 * 4) (show vp_nar .byte (bs (va_up (va_up (va_up (va_up (va_up K 3 (K 3 % 16)) 7 (K 7 % 16)) 11 (K 11 % 16)) 15 (K 15 % 16)) 4 (K 4 / 4 * 4)) 8 &&& (252 : Int32)).toInt8.toInt32 = sb_b (K 8 / 4 * 4) from sb_m252 _ (hK 8))] at o8 t8_17
  refine lv_iinc (v := nI (12)) (lv' := [(2, .int (nI (12))), (0, .ref (ad 12)), (1, .ref (ad qk))]) hx hb d_Tg_readFactor_59 hl (k := 0) rfl (by decide) (by decide) rfl (fun ls hl => ?_)
  refine lv_goto (tgt := 40) hx hb d_Tg_readFactor_62 (by decide) ?_
  refine lv_iload_n hx hb d_Tg_readFactor_40 rfl (lv_at hl 0 rfl) ?_
  refine lv_bipush (v := nI (16)) hx hb d_Tg_readFactor_41 (by decide) ?_
  refine lv_icmp_ge (tgt := 65) hx hb d_Tg_readFactor_43 (by decide) (fun hc => absurd hc (by decide)) (fun _ => ?_)
  refine lv_aload_n hx hb d_Tg_readFactor_46 rfl (lv_at hl 1 rfl) ?_
  refine wv_getf hx hb h 12 (by decide) (fs := [.ref (ad 13), .ref (ad 15), .ref (ad 16), .ref (ad 17)]) t8_12 hts (fun w hw => List.mem_cons_of_mem _ (fW_Tg w hw)) hown (ci := 3) (C := "NonceBox$Tagger") (T := fT_Tg) (N := 4) rfl 3 (by decide) (hts _ (List.mem_cons_of_mem _ kf_Tg_33)) rfl (v := .ref (ad 17)) rfl d_Tg_readFactor_47 ?_
  refine lv_iload_n hx hb d_Tg_readFactor_50 rfl (lv_at hl 0 rfl) ?_
  refine lv_dup2_11 hx hb d_Tg_readFactor_51 rfl rfl ?_
  refine wv_bald hx hb h 17 (by decide) (f := (bs (va_up (va_up (va_up (va_up (va_up (va_up K 3 (K 3 % 16)) 7 (K 7 % 16)) 11 (K 11 % 16)) 15 (K 15 % 16)) 4 (K 4 / 4 * 4)) 8 (K 8 / 4 * 4)))) t8_17 (k := 12) rfl (by decide) (by decide) d_Tg_readFactor_52 ?_
  refine lv_sipush (v := (252 : Int32)) hx hb d_Tg_readFactor_53 (by decide) ?_
  refine lv_iand hx hb d_Tg_readFactor_56 ?_
  refine lv_i2b hx hb d_Tg_readFactor_57 rfl ?_
  refine wv_bast hx hb h 17 (by decide) (f := (bs (va_up (va_up (va_up (va_up (va_up (va_up K 3 (K 3 % 16)) 7 (K 7 % 16)) 11 (K 11 % 16)) 15 (K 15 % 16)) 4 (K 4 / 4 * 4)) 8 (K 8 / 4 * 4)))) t8_17 (k := 12) rfl (by decide) (by decide) d_Tg_readFactor_58 (fun H locs h => ?_)
  obtain ⟨ev9, o9⟩ : ∃ z, z = va_up ev8 17 (eB G 16 (va_up ((bs (va_up (va_up (va_up (va_up (va_up (va_up K 3 (K 3 % 16)) 7 (K 7 % 16)) 11 (K 11 % 16)) 15 (K 15 % 16)) 4 (K 4 / 4 * 4)) 8 (K 8 / 4 * 4)))) 12 (vp_nar .byte (((((bs (va_up (va_up (va_up (va_up (va_up (va_up K 3 (K 3 % 16)) 7 (K 7 % 16)) 11 (K 11 % 16)) 15 (K 15 % 16)) 4 (K 4 / 4 * 4)) 8 (K 8 / 4 * 4)))) 12) &&& (252 : Int32)).toInt8.toInt32)))) := ⟨_, rfl⟩
  rw [← o9] at h
  have t9_17 : ev9 17 = eB G 16 (va_up ((bs (va_up (va_up (va_up (va_up (va_up (va_up K 3 (K 3 % 16)) 7 (K 7 % 16)) 11 (K 11 % 16)) 15 (K 15 % 16)) 4 (K 4 / 4 * 4)) 8 (K 8 / 4 * 4)))) 12 (vp_nar .byte (((((bs (va_up (va_up (va_up (va_up (va_up (va_up K 3 (K 3 % 16)) 7 (K 7 % 16)) 11 (K 11 % 16)) 15 (K 15 % 16)) 4 (K 4 / 4 * 4)) 8 (K 8 / 4 * 4)))) 12) &&& (252 : Int32)).toInt8.toInt32))) := by rw [o9, va_up_self]
  have t9_16 := (show ev9 16 = ev8 16 by rw [o9, va_up_ne _ _ (by decide)]).trans t8_16
  have t9_12 := (show ev9 12 = ev8 12 by rw [o9, va_up_ne _ _ (by decide)]).trans t8_12
  have t9_13 := (show ev9 13 = ev8 13 by rw [o9, va_up_ne _ _ (by decide)]).trans t8_13
  rw [bs_up (va_up (va_up (va_up (va_up (va_up (va_up K 3 (K 3 % 16)) 7 (K 7 % 16)) 11 (K 11 % 16)) 15 (K 15 % 16)) 4 (K 4 / 4 * 4)) 8 (K 8 / 4 * 4)) 12 (K 12 / 4 * 4) (show vp_nar .byte (bs (va_up (va_up (va_up (va_up (va_up (va_up K 3 (K 3 % 16)) 7 (K 7 % 16)) 11 (K 11 % 16)) 15 (K 15 % 16)) 4 (K 4 / 4 * 4)) 8 (K 8 / 4 * 4)) 12 &&& (252 : Int32)).toInt8.toInt32 = sb_b (K 12 / 4 * 4) from sb_m252 _ (hK 12))] at o9 t9_17
  refine lv_iinc (v := nI (16)) (lv' := [(2, .int (nI (16))), (0, .ref (ad 12)), (1, .ref (ad qk))]) hx hb d_Tg_readFactor_59 hl (k := 0) rfl (by decide) (by decide) rfl (fun ls hl => ?_)
  refine lv_goto (tgt := 40) hx hb d_Tg_readFactor_62 (by decide) ?_
  refine lv_iload_n hx hb d_Tg_readFactor_40 rfl (lv_at hl 0 rfl) ?_
  refine lv_bipush (v := nI (16)) hx hb d_Tg_readFactor_41 (by decide) ?_
  refine lv_icmp_ge (tgt := 65) hx hb d_Tg_readFactor_43 (by decide) (fun _ => ?_) (fun hc => absurd (by decide) hc)
  have h := wT_eqB (g := (bs (FCT K))) h 17 (by decide) t9_17 (fun j hj => by
      match j, hj with
      | 0, _ => rfl
      | 1, _ => rfl
      | 2, _ => rfl
      | 3, _ => rfl
      | 4, _ => rfl
      | 5, _ => rfl
      | 6, _ => rfl
      | 7, _ => rfl
      | 8, _ => rfl
      | 9, _ => rfl
      | 10, _ => rfl
      | 11, _ => rfl
      | 12, _ => rfl
      | 13, _ => rfl
      | 14, _ => rfl
      | 15, _ => rfl
      | j + 16, h => exact absurd h (by omega))
  obtain ⟨ev10, o10⟩ : ∃ z, z = va_up ev9 17 (eB G 16 (bs (FCT K))) := ⟨_, rfl⟩
  rw [← o10] at h
  have t10_17 : ev10 17 = eB G 16 (bs (FCT K)) := by rw [o10, va_up_self]
  have t10_16 := (show ev10 16 = ev9 16 by rw [o10, va_up_ne _ _ (by decide)]).trans t9_16
  have t10_12 := (show ev10 12 = ev9 12 by rw [o10, va_up_ne _ _ (by decide)]).trans t9_12
  have t10_13 := (show ev10 13 = ev9 13 by rw [o10, va_up_ne _ _ (by decide)]).trans t9_13
  refine lv_aload_n hx hb d_Tg_readFactor_65 rfl (lv_at hl 1 rfl) ?_
  refine wv_getf hx hb h 12 (by decide) (fs := [.ref (ad 13), .ref (ad 15), .ref (ad 16), .ref (ad 17)]) t10_12 hts (fun w hw => List.mem_cons_of_mem _ (fW_Tg w hw)) hown (ci := 3) (C := "NonceBox$Tagger") (T := fT_Tg) (N := 4) rfl 0 (by decide) (hts _ (List.mem_cons_of_mem _ kf_Tg_16)) rfl (v := .ref (ad 13)) rfl d_Tg_readFactor_66 ?_
  refine lv_aload_n hx hb d_Tg_readFactor_69 rfl (lv_at hl 1 rfl) ?_
  refine wv_getf hx hb h 12 (by decide) (fs := [.ref (ad 13), .ref (ad 15), .ref (ad 16), .ref (ad 17)]) t10_12 hts (fun w hw => List.mem_cons_of_mem _ (fW_Tg w hw)) hown (ci := 3) (C := "NonceBox$Tagger") (T := fT_Tg) (N := 4) rfl 2 (by decide) (hts _ (List.mem_cons_of_mem _ kf_Tg_30)) rfl (v := .ref (ad 16)) rfl d_Tg_readFactor_70 ?_
  refine lv_iconst (v := nI (0)) hx hb d_Tg_readFactor_73 (by decide) ?_
  refine wv_V (As := [.ref (ad 16), .int (nI (0))]) (rest := []) (k := 2) ⟨hx, hb, hml, hown, hts⟩ h 13 (by decide) (C := "NonceBox$Field") t10_13 rfl (m_Fd_setTo l G A ad ev10 13 16 5 r16 (nI 0) (by decide) t10_16 (by decide) (by decide)) kc_Fd_setTo kl_Tg_41 km_Fd_setTo kv_Fd_setTo ki_Fd (by decide +kernel) ⟨rfl, rfl, Nat.le_of_ble_eq_true rfl, Nat.le_of_ble_eq_true rfl⟩ hl.1 rfl rfl (Nat.le_of_ble_eq_true rfl) ⟨Nat.le_refl _, Nat.le_refl _⟩ d_Tg_readFactor_74 ?_
  intro ov ev11 H locs hp h
  rw [hp.1]
  refine W.eq (g2 := F0 m 77 ls []) rfl ?_
  have o11 : ev11 = (va_up ev10 16 (eJ G 5 (rowV 0))) := hp.2
  have t11_16 : ev11 16 = eJ G 5 (rowV 0) := by rw [o11, va_up_self]
  have t11_17 := (show ev11 17 = ev10 17 by rw [o11, va_up_ne _ _ (by decide)]).trans t10_17
  have t11_12 := (show ev11 12 = ev10 12 by rw [o11, va_up_ne _ _ (by decide)]).trans t10_12
  have t11_13 := (show ev11 13 = ev10 13 by rw [o11, va_up_ne _ _ (by decide)]).trans t10_13
  refine lv_aload_n hx hb d_Tg_readFactor_77 rfl (lv_at hl 1 rfl) ?_
  refine wv_getf hx hb h 12 (by decide) (fs := [.ref (ad 13), .ref (ad 15), .ref (ad 16), .ref (ad 17)]) t11_12 hts (fun w hw => List.mem_cons_of_mem _ (fW_Tg w hw)) hown (ci := 3) (C := "NonceBox$Tagger") (T := fT_Tg) (N := 4) rfl 0 (by decide) (hts _ (List.mem_cons_of_mem _ kf_Tg_16)) rfl (v := .ref (ad 13)) rfl d_Tg_readFactor_78 ?_
  refine lv_aload_n hx hb d_Tg_readFactor_81 rfl (lv_at hl 1 rfl) ?_
  refine wv_getf hx hb h 12 (by decide) (fs := [.ref (ad 13), .ref (ad 15), .ref (ad 16), .ref (ad 17)]) t11_12 hts (fun w hw => List.mem_cons_of_mem _ (fW_Tg w hw)) hown (ci := 3) (C := "NonceBox$Tagger") (T := fT_Tg) (N := 4) rfl 3 (by decide) (hts _ (List.mem_cons_of_mem _ kf_Tg_33)) rfl (v := .ref (ad 17)) rfl d_Tg_readFactor_82 ?_
  refine lv_iconst (v := nI (0)) hx hb d_Tg_readFactor_85 (by decide) ?_
  refine lv_bipush (v := nI (16)) hx hb d_Tg_readFactor_86 (by decide) ?_
  refine lv_aload_n hx hb d_Tg_readFactor_88 rfl (lv_at hl 1 rfl) ?_
  refine wv_getf hx hb h 12 (by decide) (fs := [.ref (ad 13), .ref (ad 15), .ref (ad 16), .ref (ad 17)]) t11_12 hts (fun w hw => List.mem_cons_of_mem _ (fW_Tg w hw)) hown (ci := 3) (C := "NonceBox$Tagger") (T := fT_Tg) (N := 4) rfl 2 (by decide) (hts _ (List.mem_cons_of_mem _ kf_Tg_30)) rfl (v := .ref (ad 16)) rfl d_Tg_readFactor_89 ?_
  refine wv_V (As := [.ref (ad 17), .int (nI (0)), .int (nI (16)), .ref (ad 16)]) (rest := []) (k := 4) ⟨hx, hb, hml, hown, hts⟩ h 13 (by decide) (C := "NonceBox$Field") t11_13 rfl (m_Fd_addBytes l G A ad ev11 13 0 _ (by decide) t11_13 17 16 5 16 0 16 (FCT K) (rowV 0) (by decide) (by decide) t11_17 (FCT_lt hK) t11_16 (by decide) (by decide) (by decide) (by decide) (by decide) (by decide) (by decide) (by decide)) kc_Fd_addBytes kl_Tg_59 km_Fd_addBytes kv_Fd_addBytes ki_Fd (by decide +kernel) ⟨rfl, rfl, Nat.le_of_ble_eq_true rfl, Nat.le_of_ble_eq_true rfl⟩ hl.1 rfl rfl (Nat.le_of_ble_eq_true rfl) ⟨Nat.le_refl _, Nat.le_refl _⟩ d_Tg_readFactor_92 ?_
  intro ov ev12 H locs hp h
  rw [hp.1]
  refine W.eq (g2 := F0 m 95 ls []) rfl ?_
  have o12 : ev12 = (va_up ev11 16 (eJ G 5 (fRow K))) := hp.2
  have t12_16 : ev12 16 = eJ G 5 (fRow K) := by rw [o12, va_up_self]
  have t12_17 := (show ev12 17 = ev11 17 by rw [o12, va_up_ne _ _ (by decide)]).trans t11_17
  have t12_12 := (show ev12 12 = ev11 12 by rw [o12, va_up_ne _ _ (by decide)]).trans t11_12
  have t12_13 := (show ev12 13 = ev11 13 by rw [o12, va_up_ne _ _ (by decide)]).trans t11_13
  refine wv_vret hx hb hr hlocks h d_Tg_readFactor_95 ⟨rfl, ?_⟩
  funext j
  by_cases c0 : j = 17
  · rw [c0, t12_17, va_up_ne _ _ (by decide), va_up_self]
  by_cases c1 : j = 16
  · rw [c1, t12_16, va_up_self]
  rw [va_up_ne _ _ c1, va_up_ne _ _ c0]
  rw [o12, va_up_ne _ _ c1, o11, va_up_ne _ _ c1, o10, va_up_ne _ _ c0, o9, va_up_ne _ _ c0, o8, va_up_ne _ _ c0, o7, va_up_ne _ _ c0, o6, va_up_ne _ _ c0, o5, va_up_ne _ _ c0, o4, va_up_ne _ _ c0, o3, va_up_ne _ _ c0, o2, va_up_ne _ _ c0, o1, va_up_ne _ _ c0]
theorem d_Tg_takePiece_0 : decode c_Tg_takePiece 0 = .ok (.aload_n 0, 1) := by decide +kernel
theorem d_Tg_takePiece_1 : decode c_Tg_takePiece 1 = .ok (.getfield 16, 3) := by decide +kernel
theorem d_Tg_takePiece_4 : decode c_Tg_takePiece 4 = .ok (.lconst 1, 1) := by decide +kernel
theorem d_Tg_takePiece_5 : decode c_Tg_takePiece 5 = .ok (.iload_n 3, 1) := by decide +kernel
theorem d_Tg_takePiece_6 : decode c_Tg_takePiece 6 = .ok (.aload_n 0, 1) := by decide +kernel
theorem d_Tg_takePiece_7 : decode c_Tg_takePiece 7 = .ok (.getfield 26, 3) := by decide +kernel
theorem d_Tg_takePiece_10 : decode c_Tg_takePiece 10 = .ok (.invokevirtual 73, 3) := by decide +kernel
theorem d_Tg_takePiece_13 : decode c_Tg_takePiece 13 = .ok (.aload_n 0, 1) := by decide +kernel
theorem d_Tg_takePiece_14 : decode c_Tg_takePiece 14 = .ok (.getfield 16, 3) := by decide +kernel
theorem d_Tg_takePiece_17 : decode c_Tg_takePiece 17 = .ok (.aload_n 1, 1) := by decide +kernel
theorem d_Tg_takePiece_18 : decode c_Tg_takePiece 18 = .ok (.iload_n 2, 1) := by decide +kernel
theorem d_Tg_takePiece_19 : decode c_Tg_takePiece 19 = .ok (.iload_n 3, 1) := by decide +kernel
theorem d_Tg_takePiece_20 : decode c_Tg_takePiece 20 = .ok (.aload_n 0, 1) := by decide +kernel
theorem d_Tg_takePiece_21 : decode c_Tg_takePiece 21 = .ok (.getfield 26, 3) := by decide +kernel
theorem d_Tg_takePiece_24 : decode c_Tg_takePiece 24 = .ok (.invokevirtual 59, 3) := by decide +kernel
theorem d_Tg_takePiece_27 : decode c_Tg_takePiece 27 = .ok (.aload_n 0, 1) := by decide +kernel
theorem d_Tg_takePiece_28 : decode c_Tg_takePiece 28 = .ok (.getfield 16, 3) := by decide +kernel
theorem d_Tg_takePiece_31 : decode c_Tg_takePiece 31 = .ok (.aload_n 0, 1) := by decide +kernel
theorem d_Tg_takePiece_32 : decode c_Tg_takePiece 32 = .ok (.getfield 26, 3) := by decide +kernel
theorem d_Tg_takePiece_35 : decode c_Tg_takePiece 35 = .ok (.aload_n 0, 1) := by decide +kernel
theorem d_Tg_takePiece_36 : decode c_Tg_takePiece 36 = .ok (.getfield 30, 3) := by decide +kernel
theorem d_Tg_takePiece_39 : decode c_Tg_takePiece 39 = .ok (.aload_n 0, 1) := by decide +kernel
theorem d_Tg_takePiece_40 : decode c_Tg_takePiece 40 = .ok (.getfield 26, 3) := by decide +kernel
theorem d_Tg_takePiece_43 : decode c_Tg_takePiece 43 = .ok (.invokevirtual 77, 3) := by decide +kernel
theorem d_Tg_takePiece_46 : decode c_Tg_takePiece 46 = .ok (.return_, 1) := by decide +kernel
set_option maxRecDepth 100000 in
set_option maxHeartbeats 4000000 in
/-- a piece taken in -/
theorem m_Tg_takePiece (l : Launch) (G : wG) (A : Nat → Prop) (ad : Nat → Nat) (ev : Nat → va_E) (qx Nx o sz : Nat) (X : Nat → Nat) (S F r14 : Row) (h12 : ev 12 = eO 3 [.ref (ad 13), .ref (ad 15), .ref (ad 16), .ref (ad 17)]) (h13 : ev 13 = eO 1 [.int (nI 5), .int (nI 26), .long 5, .long 5, .ref (ad 14)]) (hqx : qx < 52) (hx' : ev qx = eB G Nx (bs X)) (hX : ∀ j, X j < 256) (h14 : ev 14 = eJ G 10 r14) (h15 : ev 15 = eJ G 5 S) (h16 : ev 16 = eJ G 5 F) (ho : o + sz ≤ Nx) (hsz : sz ≤ 16) (nx2 : Nx < 2 ^ 30) (x15 : qx ≠ 15) : wM l y_Tg_takePiece w_Tg_takePiece ({ frames := 12, cells := 0, slots := 0, locals := 400 }) G A 52 ad ev [.ref (ad 12), .ref (ad qx), .int (nI (o)), .int (nI (sz))] (fun ov ev' => ∃ Wd : Row, ov = none ∧ ev' = va_up (va_up ev 14 (eJ G 10 Wd)) 15 (eJ G 5 (pcs S F X o sz))) := by
  refine wv_ofW (cc := c_Tg_takePiece) (maxL := 4) (ret := none) (by decide) rfl (Nat.le_of_ble_eq_true rfl) ?_
  intro p e s m below meth c ls hx hb hr hml hts hown hlocks hini h hl
  have hl : lv_has ls 4 [(0, .ref (ad 12)), (1, .ref (ad qx)), (2, .int (nI (o))), (3, .int (nI (sz)))] := hl
  refine lv_aload_n hx hb d_Tg_takePiece_0 rfl (lv_at hl 0 rfl) ?_
  refine wv_getf hx hb h 12 (by decide) (fs := [.ref (ad 13), .ref (ad 15), .ref (ad 16), .ref (ad 17)]) h12 hts (fun w hw => List.mem_cons_of_mem _ (fW_Tg w hw)) hown (ci := 3) (C := "NonceBox$Tagger") (T := fT_Tg) (N := 4) rfl 0 (by decide) (hts _ (List.mem_cons_of_mem _ kf_Tg_16)) rfl (v := .ref (ad 13)) rfl d_Tg_takePiece_1 ?_
  refine lv_lconst (v := 1) hx hb d_Tg_takePiece_4 (by decide) ?_
  refine lv_iload_n hx hb d_Tg_takePiece_5 rfl (lv_at hl 3 rfl) ?_
  refine lv_aload_n hx hb d_Tg_takePiece_6 rfl (lv_at hl 0 rfl) ?_
  refine wv_getf hx hb h 12 (by decide) (fs := [.ref (ad 13), .ref (ad 15), .ref (ad 16), .ref (ad 17)]) h12 hts (fun w hw => List.mem_cons_of_mem _ (fW_Tg w hw)) hown (ci := 3) (C := "NonceBox$Tagger") (T := fT_Tg) (N := 4) rfl 1 (by decide) (hts _ (List.mem_cons_of_mem _ kf_Tg_26)) rfl (v := .ref (ad 15)) rfl d_Tg_takePiece_7 ?_
  refine wv_V (As := [.long (1), .int (nI (sz)), .ref (ad 15)]) (rest := []) (k := 3) ⟨hx, hb, hml, hown, hts⟩ h 13 (by decide) (C := "NonceBox$Field") h13 rfl (m_Fd_addByte l G A ad ev 13 15 5 sz 1 S (by decide) h15 (by omega) (by omega) (by decide)) kc_Fd_addByte kl_Tg_73 km_Fd_addByte kv_Fd_addByte ki_Fd (by decide +kernel) ⟨rfl, rfl, Nat.le_of_ble_eq_true rfl, Nat.le_of_ble_eq_true rfl⟩ hl.1 rfl rfl (Nat.le_of_ble_eq_true rfl) ⟨Nat.le_refl _, Nat.le_refl _⟩ d_Tg_takePiece_10 ?_
  intro ov ev1 H locs hp h
  rw [hp.1]
  refine W.eq (g2 := F0 m 13 ls []) rfl ?_
  have o1 : ev1 = (va_up ev 15 (eJ G 5 (adB S 1 sz))) := hp.2
  have t1_15 : ev1 15 = eJ G 5 (adB S 1 sz) := by rw [o1, va_up_self]
  have t1_qx := (show ev1 qx = ev qx by rw [o1, va_up_ne _ _ x15]).trans hx'
  have t1_14 := (show ev1 14 = ev 14 by rw [o1, va_up_ne _ _ (by decide)]).trans h14
  have t1_16 := (show ev1 16 = ev 16 by rw [o1, va_up_ne _ _ (by decide)]).trans h16
  have t1_12 := (show ev1 12 = ev 12 by rw [o1, va_up_ne _ _ (by decide)]).trans h12
  have t1_13 := (show ev1 13 = ev 13 by rw [o1, va_up_ne _ _ (by decide)]).trans h13
  refine lv_aload_n hx hb d_Tg_takePiece_13 rfl (lv_at hl 0 rfl) ?_
  refine wv_getf hx hb h 12 (by decide) (fs := [.ref (ad 13), .ref (ad 15), .ref (ad 16), .ref (ad 17)]) t1_12 hts (fun w hw => List.mem_cons_of_mem _ (fW_Tg w hw)) hown (ci := 3) (C := "NonceBox$Tagger") (T := fT_Tg) (N := 4) rfl 0 (by decide) (hts _ (List.mem_cons_of_mem _ kf_Tg_16)) rfl (v := .ref (ad 13)) rfl d_Tg_takePiece_14 ?_
  refine lv_aload_n hx hb d_Tg_takePiece_17 rfl (lv_at hl 1 rfl) ?_
  refine lv_iload_n hx hb d_Tg_takePiece_18 rfl (lv_at hl 2 rfl) ?_
  refine lv_iload_n hx hb d_Tg_takePiece_19 rfl (lv_at hl 3 rfl) ?_
  refine lv_aload_n hx hb d_Tg_takePiece_20 rfl (lv_at hl 0 rfl) ?_
  refine wv_getf hx hb h 12 (by decide) (fs := [.ref (ad 13), .ref (ad 15), .ref (ad 16), .ref (ad 17)]) t1_12 hts (fun w hw => List.mem_cons_of_mem _ (fW_Tg w hw)) hown (ci := 3) (C := "NonceBox$Tagger") (T := fT_Tg) (N := 4) rfl 1 (by decide) (hts _ (List.mem_cons_of_mem _ kf_Tg_26)) rfl (v := .ref (ad 15)) rfl d_Tg_takePiece_21 ?_
  refine wv_V (As := [.ref (ad qx), .int (nI (o)), .int (nI (sz)), .ref (ad 15)]) (rest := []) (k := 4) ⟨hx, hb, hml, hown, hts⟩ h 13 (by decide) (C := "NonceBox$Field") t1_13 rfl (m_Fd_addBytes l G A ad ev1 13 0 _ (by decide) t1_13 qx 15 5 Nx o sz X (adB S 1 sz) hqx (by decide) t1_qx hX t1_15 (by decide) x15 (by omega) (by omega) ho nx2 (by decide) (by decide)) kc_Fd_addBytes kl_Tg_59 km_Fd_addBytes kv_Fd_addBytes ki_Fd (by decide +kernel) ⟨rfl, rfl, Nat.le_of_ble_eq_true rfl, Nat.le_of_ble_eq_true rfl⟩ hl.1 rfl rfl (Nat.le_of_ble_eq_true rfl) ⟨Nat.le_refl _, Nat.le_refl _⟩ d_Tg_takePiece_24 ?_
  intro ov ev2 H locs hp h
  rw [hp.1]
  refine W.eq (g2 := F0 m 27 ls []) rfl ?_
  have o2 : ev2 = (va_up ev1 15 (eJ G 5 (cry (adBs X o (adB S 1 sz) sz) 4))) := hp.2
  have t2_15 : ev2 15 = eJ G 5 (cry (adBs X o (adB S 1 sz) sz) 4) := by rw [o2, va_up_self]
  have t2_qx := (show ev2 qx = ev1 qx by rw [o2, va_up_ne _ _ x15]).trans t1_qx
  have t2_14 := (show ev2 14 = ev1 14 by rw [o2, va_up_ne _ _ (by decide)]).trans t1_14
  have t2_16 := (show ev2 16 = ev1 16 by rw [o2, va_up_ne _ _ (by decide)]).trans t1_16
  have t2_12 := (show ev2 12 = ev1 12 by rw [o2, va_up_ne _ _ (by decide)]).trans t1_12
  have t2_13 := (show ev2 13 = ev1 13 by rw [o2, va_up_ne _ _ (by decide)]).trans t1_13
  refine lv_aload_n hx hb d_Tg_takePiece_27 rfl (lv_at hl 0 rfl) ?_
  refine wv_getf hx hb h 12 (by decide) (fs := [.ref (ad 13), .ref (ad 15), .ref (ad 16), .ref (ad 17)]) t2_12 hts (fun w hw => List.mem_cons_of_mem _ (fW_Tg w hw)) hown (ci := 3) (C := "NonceBox$Tagger") (T := fT_Tg) (N := 4) rfl 0 (by decide) (hts _ (List.mem_cons_of_mem _ kf_Tg_16)) rfl (v := .ref (ad 13)) rfl d_Tg_takePiece_28 ?_
  refine lv_aload_n hx hb d_Tg_takePiece_31 rfl (lv_at hl 0 rfl) ?_
  refine wv_getf hx hb h 12 (by decide) (fs := [.ref (ad 13), .ref (ad 15), .ref (ad 16), .ref (ad 17)]) t2_12 hts (fun w hw => List.mem_cons_of_mem _ (fW_Tg w hw)) hown (ci := 3) (C := "NonceBox$Tagger") (T := fT_Tg) (N := 4) rfl 1 (by decide) (hts _ (List.mem_cons_of_mem _ kf_Tg_26)) rfl (v := .ref (ad 15)) rfl d_Tg_takePiece_32 ?_
  refine lv_aload_n hx hb d_Tg_takePiece_35 rfl (lv_at hl 0 rfl) ?_
  refine wv_getf hx hb h 12 (by decide) (fs := [.ref (ad 13), .ref (ad 15), .ref (ad 16), .ref (ad 17)]) t2_12 hts (fun w hw => List.mem_cons_of_mem _ (fW_Tg w hw)) hown (ci := 3) (C := "NonceBox$Tagger") (T := fT_Tg) (N := 4) rfl 2 (by decide) (hts _ (List.mem_cons_of_mem _ kf_Tg_30)) rfl (v := .ref (ad 16)) rfl d_Tg_takePiece_36 ?_
  refine lv_aload_n hx hb d_Tg_takePiece_39 rfl (lv_at hl 0 rfl) ?_
  refine wv_getf hx hb h 12 (by decide) (fs := [.ref (ad 13), .ref (ad 15), .ref (ad 16), .ref (ad 17)]) t2_12 hts (fun w hw => List.mem_cons_of_mem _ (fW_Tg w hw)) hown (ci := 3) (C := "NonceBox$Tagger") (T := fT_Tg) (N := 4) rfl 1 (by decide) (hts _ (List.mem_cons_of_mem _ kf_Tg_26)) rfl (v := .ref (ad 15)) rfl d_Tg_takePiece_40 ?_
  refine wv_V (As := [.ref (ad 15), .ref (ad 16), .ref (ad 15)]) (rest := []) (k := 3) ⟨hx, hb, hml, hown, hts⟩ h 13 (by decide) (C := "NonceBox$Field") t2_13 rfl (m_Fd_times l G A ad ev2 13 14 5 26 5 5 (by decide) t2_13 (by decide) (by decide) 15 16 15 (cry (adBs X o (adB S 1 sz) sz) 4) F (cry (adBs X o (adB S 1 sz) sz) 4) r14 (by decide) (by decide) (by decide) (by decide) t2_15 t2_16 t2_15 t2_14 (by decide) (by decide) (by decide) (by decide) (by decide)) kc_Fd_times kl_Tg_77 km_Fd_times kv_Fd_times ki_Fd (by decide +kernel) ⟨rfl, rfl, Nat.le_of_ble_eq_true rfl, Nat.le_of_ble_eq_true rfl⟩ hl.1 rfl rfl (Nat.le_of_ble_eq_true rfl) ⟨Nat.le_refl _, Nat.le_refl _⟩ d_Tg_takePiece_43 ?_
  intro ov ev3 H locs hp h
  rw [hp.1]
  refine W.eq (g2 := F0 m 46 ls []) rfl ?_
  have o3 : ev3 = (va_up (va_up ev2 14 (eJ G 10 (wdC (cry (adBs X o (adB S 1 sz) sz) 4) F 5))) 15 (eJ G 5 (pcs S F X o sz))) := hp.2
  have t3_14 : ev3 14 = eJ G 10 (wdC (cry (adBs X o (adB S 1 sz) sz) 4) F 5) := by rw [o3, va_up_ne _ _ (by decide), va_up_self]
  have t3_15 : ev3 15 = eJ G 5 (pcs S F X o sz) := by rw [o3, va_up_self]
  have t3_16 := (show ev3 16 = ev2 16 by rw [o3, va_up_ne _ _ (by decide), va_up_ne _ _ (by decide)]).trans t2_16
  have t3_12 := (show ev3 12 = ev2 12 by rw [o3, va_up_ne _ _ (by decide), va_up_ne _ _ (by decide)]).trans t2_12
  have t3_13 := (show ev3 13 = ev2 13 by rw [o3, va_up_ne _ _ (by decide), va_up_ne _ _ (by decide)]).trans t2_13
  refine wv_vret hx hb hr hlocks h d_Tg_takePiece_46 ⟨wdC (cry (adBs X o (adB S 1 sz) sz) 4) F 5, rfl, ?_⟩
  rw [o3, o2, o1]
  funext j
  by_cases c0 : j = 14
  · subst c0; simp [va_up]
  by_cases c1 : j = 15
  · subst c1; simp [va_up]
  simp only [va_up, c0, c1, if_false]
theorem d_Tg_tagInto_0 : decode c_Tg_tagInto 0 = .ok (.aload_n 0, 1) := by decide +kernel
theorem d_Tg_tagInto_1 : decode c_Tg_tagInto 1 = .ok (.aload_n 1, 1) := by decide +kernel
theorem d_Tg_tagInto_2 : decode c_Tg_tagInto 2 = .ok (.invokevirtual 37, 3) := by decide +kernel
theorem d_Tg_tagInto_5 : decode c_Tg_tagInto 5 = .ok (.aload_n 0, 1) := by decide +kernel
theorem d_Tg_tagInto_6 : decode c_Tg_tagInto 6 = .ok (.getfield 16, 3) := by decide +kernel
theorem d_Tg_tagInto_9 : decode c_Tg_tagInto 9 = .ok (.aload_n 0, 1) := by decide +kernel
theorem d_Tg_tagInto_10 : decode c_Tg_tagInto 10 = .ok (.getfield 26, 3) := by decide +kernel
theorem d_Tg_tagInto_13 : decode c_Tg_tagInto 13 = .ok (.iconst 0, 1) := by decide +kernel
theorem d_Tg_tagInto_14 : decode c_Tg_tagInto 14 = .ok (.invokevirtual 41, 3) := by decide +kernel
theorem d_Tg_tagInto_17 : decode c_Tg_tagInto 17 = .ok (.iconst 0, 1) := by decide +kernel
theorem d_Tg_tagInto_18 : decode c_Tg_tagInto 18 = .ok (.istore 6, 2) := by decide +kernel
theorem d_Tg_tagInto_20 : decode c_Tg_tagInto 20 = .ok (.iload 6, 2) := by decide +kernel
theorem d_Tg_tagInto_22 : decode c_Tg_tagInto 22 = .ok (.iload 4, 2) := by decide +kernel
theorem d_Tg_tagInto_24 : decode c_Tg_tagInto 24 = .ok (.if_icmp .ge 28, 3) := by decide +kernel
theorem d_Tg_tagInto_27 : decode c_Tg_tagInto 27 = .ok (.aload_n 0, 1) := by decide +kernel
theorem d_Tg_tagInto_28 : decode c_Tg_tagInto 28 = .ok (.aload_n 2, 1) := by decide +kernel
theorem d_Tg_tagInto_29 : decode c_Tg_tagInto 29 = .ok (.iload_n 3, 1) := by decide +kernel
theorem d_Tg_tagInto_30 : decode c_Tg_tagInto 30 = .ok (.iload 6, 2) := by decide +kernel
theorem d_Tg_tagInto_32 : decode c_Tg_tagInto 32 = .ok (.iadd, 1) := by decide +kernel
theorem d_Tg_tagInto_33 : decode c_Tg_tagInto 33 = .ok (.bipush 16, 2) := by decide +kernel
theorem d_Tg_tagInto_35 : decode c_Tg_tagInto 35 = .ok (.iload 4, 2) := by decide +kernel
theorem d_Tg_tagInto_37 : decode c_Tg_tagInto 37 = .ok (.iload 6, 2) := by decide +kernel
theorem d_Tg_tagInto_39 : decode c_Tg_tagInto 39 = .ok (.isub, 1) := by decide +kernel
theorem d_Tg_tagInto_40 : decode c_Tg_tagInto 40 = .ok (.invokestatic 45, 3) := by decide +kernel
theorem d_Tg_tagInto_43 : decode c_Tg_tagInto 43 = .ok (.invokevirtual 51, 3) := by decide +kernel
theorem d_Tg_tagInto_46 : decode c_Tg_tagInto 46 = .ok (.iinc 6 16, 3) := by decide +kernel
theorem d_Tg_tagInto_49 : decode c_Tg_tagInto 49 = .ok (.goto (-29), 3) := by decide +kernel
theorem d_Tg_tagInto_52 : decode c_Tg_tagInto 52 = .ok (.aload_n 0, 1) := by decide +kernel
theorem d_Tg_tagInto_53 : decode c_Tg_tagInto 53 = .ok (.getfield 16, 3) := by decide +kernel
theorem d_Tg_tagInto_56 : decode c_Tg_tagInto 56 = .ok (.aload_n 0, 1) := by decide +kernel
theorem d_Tg_tagInto_57 : decode c_Tg_tagInto 57 = .ok (.getfield 26, 3) := by decide +kernel
theorem d_Tg_tagInto_60 : decode c_Tg_tagInto 60 = .ok (.invokevirtual 55, 3) := by decide +kernel
theorem d_Tg_tagInto_63 : decode c_Tg_tagInto 63 = .ok (.aload_n 0, 1) := by decide +kernel
theorem d_Tg_tagInto_64 : decode c_Tg_tagInto 64 = .ok (.getfield 16, 3) := by decide +kernel
theorem d_Tg_tagInto_67 : decode c_Tg_tagInto 67 = .ok (.aload_n 1, 1) := by decide +kernel
theorem d_Tg_tagInto_68 : decode c_Tg_tagInto 68 = .ok (.bipush 16, 2) := by decide +kernel
theorem d_Tg_tagInto_70 : decode c_Tg_tagInto 70 = .ok (.bipush 16, 2) := by decide +kernel
theorem d_Tg_tagInto_72 : decode c_Tg_tagInto 72 = .ok (.aload_n 0, 1) := by decide +kernel
theorem d_Tg_tagInto_73 : decode c_Tg_tagInto 73 = .ok (.getfield 26, 3) := by decide +kernel
theorem d_Tg_tagInto_76 : decode c_Tg_tagInto 76 = .ok (.invokevirtual 59, 3) := by decide +kernel
theorem d_Tg_tagInto_79 : decode c_Tg_tagInto 79 = .ok (.aload_n 0, 1) := by decide +kernel
theorem d_Tg_tagInto_80 : decode c_Tg_tagInto 80 = .ok (.getfield 16, 3) := by decide +kernel
theorem d_Tg_tagInto_83 : decode c_Tg_tagInto 83 = .ok (.aload_n 0, 1) := by decide +kernel
theorem d_Tg_tagInto_84 : decode c_Tg_tagInto 84 = .ok (.getfield 26, 3) := by decide +kernel
theorem d_Tg_tagInto_87 : decode c_Tg_tagInto 87 = .ok (.aload 5, 2) := by decide +kernel
theorem d_Tg_tagInto_89 : decode c_Tg_tagInto 89 = .ok (.bipush 16, 2) := by decide +kernel
theorem d_Tg_tagInto_91 : decode c_Tg_tagInto 91 = .ok (.invokevirtual 63, 3) := by decide +kernel
theorem d_Tg_tagInto_94 : decode c_Tg_tagInto 94 = .ok (.return_, 1) := by decide +kernel
set_option maxRecDepth 100000 in
set_option maxHeartbeats 4000000 in
/-- TAG -/
theorem m_Tg_tagInto (l : Launch) (G : wG) (A : Nat → Prop) (ad : Nat → Nat) (ev : Nat → va_E) (qk qx qt Nk Nx Nt o n : Nat) (K X T BY : Nat → Nat) (r14 r15 r16 : Row) (h12 : ev 12 = eO 3 [.ref (ad 13), .ref (ad 15), .ref (ad 16), .ref (ad 17)]) (h13 : ev 13 = eO 1 [.int (nI 5), .int (nI 26), .long 5, .long 5, .ref (ad 14)]) (hqk : qk < 52) (hqx : qx < 52) (hqt : qt < 52) (hk : ev qk = eB G Nk (bs K)) (hx' : ev qx = eB G Nx (bs X)) (ht : ev qt = eB G Nt (bs T)) (hK : ∀ j, K j < 256) (hX : ∀ j, X j < 256) (h14 : ev 14 = eJ G 10 r14) (h15 : ev 15 = eJ G 5 r15) (h16 : ev 16 = eJ G 5 r16) (h17 : ev 17 = eB G 16 (bs BY)) (nk : 32 ≤ Nk) (nk2 : Nk < 2 ^ 30) (nx : o + n ≤ Nx) (nx2 : Nx < 2 ^ 30) (nt : 16 ≤ Nt) (nt2 : Nt < 2 ^ 30) (kq : qk < 12 ∨ 17 < qk) (xq : qx < 12 ∨ 17 < qx) (tq : qt < 12 ∨ 17 < qt) : wM l y_Tg_tagInto w_Tg_tagInto ({ frames := 15, cells := 0, slots := 0, locals := 500 }) G A 52 ad ev [.ref (ad 12), .ref (ad qk), .ref (ad qx), .int (nI (o)), .int (nI (n)), .ref (ad qt)] (fun ov ev' => ∃ Wd : Row, ov = none ∧ ev' = (va_up (va_up (va_up (va_up (va_up ev 14 (eJ G 10 Wd)) 15 (eJ G 5 (tagRow K X o n))) 16 (eJ G 5 (fRow K))) 17 (eB G 16 (bs (FCT K)))) qt (eB G Nt (bs (fil 0 16 (TAGB K X o n) T))))) := by
  refine wv_ofW (cc := c_Tg_tagInto) (maxL := 7) (ret := none) (by decide) rfl (Nat.le_of_ble_eq_true rfl) ?_
  intro p e s m below meth c ls hx hb hr hml hts hown hlocks hini h hl
  have hl : lv_has ls 7 [(0, .ref (ad 12)), (1, .ref (ad qk)), (2, .ref (ad qx)), (3, .int (nI (o))), (4, .int (nI (n))), (5, .ref (ad qt))] := hl
  refine lv_aload_n hx hb d_Tg_tagInto_0 rfl (lv_at hl 0 rfl) ?_
  refine lv_aload_n hx hb d_Tg_tagInto_1 rfl (lv_at hl 1 rfl) ?_
  refine wv_V (As := [.ref (ad qk)]) (rest := []) (k := 1) ⟨hx, hb, hml, hown, hts⟩ h 12 (by decide) (C := "NonceBox$Tagger") h12 rfl (m_Tg_readFactor l G A ad ev qk Nk K BY r16 h12 h13 hqk hk hK h16 h17 (by omega) nk2 (by omega)) kc_Tg_readFactor kl_Tg_37 km_Tg_readFactor kv_Tg_readFactor ki_Tg (by decide +kernel) ⟨rfl, rfl, Nat.le_of_ble_eq_true rfl, Nat.le_of_ble_eq_true rfl⟩ hl.1 rfl rfl (Nat.le_of_ble_eq_true rfl) ⟨Nat.le_refl _, Nat.le_refl _⟩ d_Tg_tagInto_2 ?_
  intro ov ev1 H locs hp h
  rw [hp.1]
  refine W.eq (g2 := F0 m 5 ls []) rfl ?_
  have o1 : ev1 = (va_up (va_up ev 17 (eB G 16 (bs (FCT K)))) 16 (eJ G 5 (fRow K))) := hp.2
  have t1_17 : ev1 17 = eB G 16 (bs (FCT K)) := by rw [o1, va_up_ne _ _ (by decide), va_up_self]
  have t1_16 : ev1 16 = eJ G 5 (fRow K) := by rw [o1, va_up_self]
  have t1_qk := (show ev1 qk = ev qk by rw [o1, va_up_ne _ _ (by omega), va_up_ne _ _ (by omega)]).trans hk
  have t1_qx := (show ev1 qx = ev qx by rw [o1, va_up_ne _ _ (by omega), va_up_ne _ _ (by omega)]).trans hx'
  have t1_qt := (show ev1 qt = ev qt by rw [o1, va_up_ne _ _ (by omega), va_up_ne _ _ (by omega)]).trans ht
  have t1_14 := (show ev1 14 = ev 14 by rw [o1, va_up_ne _ _ (by decide), va_up_ne _ _ (by decide)]).trans h14
  have t1_15 := (show ev1 15 = ev 15 by rw [o1, va_up_ne _ _ (by decide), va_up_ne _ _ (by decide)]).trans h15
  have t1_12 := (show ev1 12 = ev 12 by rw [o1, va_up_ne _ _ (by decide), va_up_ne _ _ (by decide)]).trans h12
  have t1_13 := (show ev1 13 = ev 13 by rw [o1, va_up_ne _ _ (by decide), va_up_ne _ _ (by decide)]).trans h13
  refine lv_aload_n hx hb d_Tg_tagInto_5 rfl (lv_at hl 0 rfl) ?_
  refine wv_getf hx hb h 12 (by decide) (fs := [.ref (ad 13), .ref (ad 15), .ref (ad 16), .ref (ad 17)]) t1_12 hts (fun w hw => List.mem_cons_of_mem _ (fW_Tg w hw)) hown (ci := 3) (C := "NonceBox$Tagger") (T := fT_Tg) (N := 4) rfl 0 (by decide) (hts _ (List.mem_cons_of_mem _ kf_Tg_16)) rfl (v := .ref (ad 13)) rfl d_Tg_tagInto_6 ?_
  refine lv_aload_n hx hb d_Tg_tagInto_9 rfl (lv_at hl 0 rfl) ?_
  refine wv_getf hx hb h 12 (by decide) (fs := [.ref (ad 13), .ref (ad 15), .ref (ad 16), .ref (ad 17)]) t1_12 hts (fun w hw => List.mem_cons_of_mem _ (fW_Tg w hw)) hown (ci := 3) (C := "NonceBox$Tagger") (T := fT_Tg) (N := 4) rfl 1 (by decide) (hts _ (List.mem_cons_of_mem _ kf_Tg_26)) rfl (v := .ref (ad 15)) rfl d_Tg_tagInto_10 ?_
  refine lv_iconst (v := nI (0)) hx hb d_Tg_tagInto_13 (by decide) ?_
  refine wv_V (As := [.ref (ad 15), .int (nI (0))]) (rest := []) (k := 2) ⟨hx, hb, hml, hown, hts⟩ h 13 (by decide) (C := "NonceBox$Field") t1_13 rfl (m_Fd_setTo l G A ad ev1 13 15 5 r15 (nI 0) (by decide) t1_15 (by decide) (by decide)) kc_Fd_setTo kl_Tg_41 km_Fd_setTo kv_Fd_setTo ki_Fd (by decide +kernel) ⟨rfl, rfl, Nat.le_of_ble_eq_true rfl, Nat.le_of_ble_eq_true rfl⟩ hl.1 rfl rfl (Nat.le_of_ble_eq_true rfl) ⟨Nat.le_refl _, Nat.le_refl _⟩ d_Tg_tagInto_14 ?_
  intro ov ev2 H locs hp h
  rw [hp.1]
  refine W.eq (g2 := F0 m 17 ls []) rfl ?_
  have o2 : ev2 = (va_up ev1 15 (eJ G 5 (rowV 0))) := hp.2
  have t2_15 : ev2 15 = eJ G 5 (rowV 0) := by rw [o2, va_up_self]
  have t2_qk := (show ev2 qk = ev1 qk by rw [o2, va_up_ne _ _ (by omega)]).trans t1_qk
  have t2_qx := (show ev2 qx = ev1 qx by rw [o2, va_up_ne _ _ (by omega)]).trans t1_qx
  have t2_qt := (show ev2 qt = ev1 qt by rw [o2, va_up_ne _ _ (by omega)]).trans t1_qt
  have t2_14 := (show ev2 14 = ev1 14 by rw [o2, va_up_ne _ _ (by decide)]).trans t1_14
  have t2_16 := (show ev2 16 = ev1 16 by rw [o2, va_up_ne _ _ (by decide)]).trans t1_16
  have t2_17 := (show ev2 17 = ev1 17 by rw [o2, va_up_ne _ _ (by decide)]).trans t1_17
  have t2_12 := (show ev2 12 = ev1 12 by rw [o2, va_up_ne _ _ (by decide)]).trans t1_12
  have t2_13 := (show ev2 13 = ev1 13 by rw [o2, va_up_ne _ _ (by decide)]).trans t1_13
  refine lv_iconst (v := nI (0)) hx hb d_Tg_tagInto_17 (by decide) ?_
  refine lv_istore (lv' := [(6, .int (nI (0))), (0, .ref (ad 12)), (1, .ref (ad qk)), (2, .ref (ad qx)), (3, .int (nI (o))), (4, .int (nI (n))), (5, .ref (ad qt))]) hx hb d_Tg_tagInto_18 hl (by decide) rfl (fun ls hl => ?_)
  have loop3 : ∀ (d k : Nat), k + d = (n + 15) / 16 → ∀ (Wd : Row),  ∀ (ev3 : Nat → va_E) (H : Heap) (locs : List Loc) (ls : Array Slot), ev3 = (va_up (va_up ev2 14 (eJ G 10 Wd)) 15 (eJ G 5 (tgS (fRow K) X o n k))) → wT G A 52 ad ev3 s H locs → lv_has ls 7 [(6, .int (nI (16 * k))), (0, .ref (ad 12)), (1, .ref (ad qk)), (2, .ref (ad qx)), (3, .int (nI (o))), (4, .int (nI (n))), (5, .ref (ad qt))] → W p l e ({ frames := 15, cells := 0, slots := 0, locals := 500 }) s m ([.ref (ad 12), .ref (ad qk), .ref (ad qx), .int (nI (o)), .int (nI (n)), .ref (ad qt)] : List Value).toArray below meth c H locs 0 0 (MQ below (wQc G A 52 ad (fun ov ev' => ∃ Wd : Row, ov = none ∧ ev' = (va_up (va_up (va_up (va_up (va_up ev 14 (eJ G 10 Wd)) 15 (eJ G 5 (tagRow K X o n))) 16 (eJ G 5 (fRow K))) 17 (eB G 16 (bs (FCT K)))) qt (eB G Nt (bs (fil 0 16 (TAGB K X o n) T)))))) ([.ref (ad 12), .ref (ad qk), .ref (ad qx), .int (nI (o)), .int (nI (n)), .ref (ad qt)] : List Value).toArray s 0 0 A) (F0 m 20 ls []) := by
    intro d
    induction d with
    | zero =>
      intro k hk_k Wd ev3 H locs ls  o3 h hl
      have t3_14 : ev3 14 = eJ G 10 Wd := by rw [o3, va_up_ne _ _ (by decide), va_up_self]
      have t3_15 : ev3 15 = eJ G 5 (tgS (fRow K) X o n k) := by rw [o3, va_up_self]
      have t3_qk := (show ev3 qk = ev2 qk by rw [o3, va_up_ne _ _ (by omega), va_up_ne _ _ (by omega)]).trans t2_qk
      have t3_qx := (show ev3 qx = ev2 qx by rw [o3, va_up_ne _ _ (by omega), va_up_ne _ _ (by omega)]).trans t2_qx
      have t3_qt := (show ev3 qt = ev2 qt by rw [o3, va_up_ne _ _ (by omega), va_up_ne _ _ (by omega)]).trans t2_qt
      have t3_16 := (show ev3 16 = ev2 16 by rw [o3, va_up_ne _ _ (by decide), va_up_ne _ _ (by decide)]).trans t2_16
      have t3_17 := (show ev3 17 = ev2 17 by rw [o3, va_up_ne _ _ (by decide), va_up_ne _ _ (by decide)]).trans t2_17
      have t3_12 := (show ev3 12 = ev2 12 by rw [o3, va_up_ne _ _ (by decide), va_up_ne _ _ (by decide)]).trans t2_12
      have t3_13 := (show ev3 13 = ev2 13 by rw [o3, va_up_ne _ _ (by decide), va_up_ne _ _ (by decide)]).trans t2_13
      refine lv_iload hx hb d_Tg_tagInto_20 (lv_at hl 0 rfl) ?_
      refine lv_iload hx hb d_Tg_tagInto_22 (lv_at hl 5 rfl) ?_
      refine lv_icmp_ge (tgt := 52) hx hb d_Tg_tagInto_24 (by decide) (fun _ => ?_) (fun hc => absurd ((nI_leI (by omega) (by omega)).mpr (by omega)) hc)
      refine lv_aload_n hx hb d_Tg_tagInto_52 rfl (lv_at hl 1 rfl) ?_
      refine wv_getf hx hb h 12 (by decide) (fs := [.ref (ad 13), .ref (ad 15), .ref (ad 16), .ref (ad 17)]) t3_12 hts (fun w hw => List.mem_cons_of_mem _ (fW_Tg w hw)) hown (ci := 3) (C := "NonceBox$Tagger") (T := fT_Tg) (N := 4) rfl 0 (by decide) (hts _ (List.mem_cons_of_mem _ kf_Tg_16)) rfl (v := .ref (ad 13)) rfl d_Tg_tagInto_53 ?_
      refine lv_aload_n hx hb d_Tg_tagInto_56 rfl (lv_at hl 1 rfl) ?_
      refine wv_getf hx hb h 12 (by decide) (fs := [.ref (ad 13), .ref (ad 15), .ref (ad 16), .ref (ad 17)]) t3_12 hts (fun w hw => List.mem_cons_of_mem _ (fW_Tg w hw)) hown (ci := 3) (C := "NonceBox$Tagger") (T := fT_Tg) (N := 4) rfl 1 (by decide) (hts _ (List.mem_cons_of_mem _ kf_Tg_26)) rfl (v := .ref (ad 15)) rfl d_Tg_tagInto_57 ?_
      refine wv_V (As := [.ref (ad 15)]) (rest := []) (k := 1) ⟨hx, hb, hml, hown, hts⟩ h 13 (by decide) (C := "NonceBox$Field") t3_13 rfl (m_Fd_settle l G A ad ev3 13 14 5 26 5 5 (by decide) t3_13 (by decide) (by decide) 15 (tgS (fRow K) X o n k) (by decide) t3_15 (by decide)) kc_Fd_settle kl_Tg_55 km_Fd_settle kv_Fd_settle ki_Fd (by decide +kernel) ⟨rfl, rfl, Nat.le_of_ble_eq_true rfl, Nat.le_of_ble_eq_true rfl⟩ hl.1 rfl rfl (Nat.le_of_ble_eq_true rfl) ⟨Nat.le_refl _, Nat.le_refl _⟩ d_Tg_tagInto_60 ?_
      intro ov ev4 H locs hp h
      rw [hp.1]
      refine W.eq (g2 := F0 m 63 ls []) rfl ?_
      have o4 : ev4 = (va_up ev3 15 (eJ G 5 (stl 5 26 5 (tgS (fRow K) X o n k)))) := hp.2
      have t4_15 : ev4 15 = eJ G 5 (stl 5 26 5 (tgS (fRow K) X o n k)) := by rw [o4, va_up_self]
      have t4_qk := (show ev4 qk = ev3 qk by rw [o4, va_up_ne _ _ (by omega)]).trans t3_qk
      have t4_qx := (show ev4 qx = ev3 qx by rw [o4, va_up_ne _ _ (by omega)]).trans t3_qx
      have t4_qt := (show ev4 qt = ev3 qt by rw [o4, va_up_ne _ _ (by omega)]).trans t3_qt
      have t4_14 := (show ev4 14 = ev3 14 by rw [o4, va_up_ne _ _ (by decide)]).trans t3_14
      have t4_16 := (show ev4 16 = ev3 16 by rw [o4, va_up_ne _ _ (by decide)]).trans t3_16
      have t4_17 := (show ev4 17 = ev3 17 by rw [o4, va_up_ne _ _ (by decide)]).trans t3_17
      have t4_12 := (show ev4 12 = ev3 12 by rw [o4, va_up_ne _ _ (by decide)]).trans t3_12
      have t4_13 := (show ev4 13 = ev3 13 by rw [o4, va_up_ne _ _ (by decide)]).trans t3_13
      refine lv_aload_n hx hb d_Tg_tagInto_63 rfl (lv_at hl 1 rfl) ?_
      refine wv_getf hx hb h 12 (by decide) (fs := [.ref (ad 13), .ref (ad 15), .ref (ad 16), .ref (ad 17)]) t4_12 hts (fun w hw => List.mem_cons_of_mem _ (fW_Tg w hw)) hown (ci := 3) (C := "NonceBox$Tagger") (T := fT_Tg) (N := 4) rfl 0 (by decide) (hts _ (List.mem_cons_of_mem _ kf_Tg_16)) rfl (v := .ref (ad 13)) rfl d_Tg_tagInto_64 ?_
      refine lv_aload_n hx hb d_Tg_tagInto_67 rfl (lv_at hl 2 rfl) ?_
      refine lv_bipush (v := nI (16)) hx hb d_Tg_tagInto_68 (by decide) ?_
      refine lv_bipush (v := nI (16)) hx hb d_Tg_tagInto_70 (by decide) ?_
      refine lv_aload_n hx hb d_Tg_tagInto_72 rfl (lv_at hl 1 rfl) ?_
      refine wv_getf hx hb h 12 (by decide) (fs := [.ref (ad 13), .ref (ad 15), .ref (ad 16), .ref (ad 17)]) t4_12 hts (fun w hw => List.mem_cons_of_mem _ (fW_Tg w hw)) hown (ci := 3) (C := "NonceBox$Tagger") (T := fT_Tg) (N := 4) rfl 1 (by decide) (hts _ (List.mem_cons_of_mem _ kf_Tg_26)) rfl (v := .ref (ad 15)) rfl d_Tg_tagInto_73 ?_
      refine wv_V (As := [.ref (ad qk), .int (nI (16)), .int (nI (16)), .ref (ad 15)]) (rest := []) (k := 4) ⟨hx, hb, hml, hown, hts⟩ h 13 (by decide) (C := "NonceBox$Field") t4_13 rfl (m_Fd_addBytes l G A ad ev4 13 0 _ (by decide) t4_13 qk 15 5 Nk 16 16 K (stl 5 26 5 (tgS (fRow K) X o n k)) hqk (by decide) t4_qk hK t4_15 (by decide) (by omega) (by decide) (by decide) (by omega) nk2 (by decide) (by decide)) kc_Fd_addBytes kl_Tg_59 km_Fd_addBytes kv_Fd_addBytes ki_Fd (by decide +kernel) ⟨rfl, rfl, Nat.le_of_ble_eq_true rfl, Nat.le_of_ble_eq_true rfl⟩ hl.1 rfl rfl (Nat.le_of_ble_eq_true rfl) ⟨Nat.le_refl _, Nat.le_refl _⟩ d_Tg_tagInto_76 ?_
      intro ov ev5 H locs hp h
      rw [hp.1]
      refine W.eq (g2 := F0 m 79 ls []) rfl ?_
      have o5 : ev5 = (va_up ev4 15 (eJ G 5 (cry (adBs K 16 (stl 5 26 5 (tgS (fRow K) X o n k)) 16) 4))) := hp.2
      have t5_15 : ev5 15 = eJ G 5 (cry (adBs K 16 (stl 5 26 5 (tgS (fRow K) X o n k)) 16) 4) := by rw [o5, va_up_self]
      have t5_qk := (show ev5 qk = ev4 qk by rw [o5, va_up_ne _ _ (by omega)]).trans t4_qk
      have t5_qx := (show ev5 qx = ev4 qx by rw [o5, va_up_ne _ _ (by omega)]).trans t4_qx
      have t5_qt := (show ev5 qt = ev4 qt by rw [o5, va_up_ne _ _ (by omega)]).trans t4_qt
      have t5_14 := (show ev5 14 = ev4 14 by rw [o5, va_up_ne _ _ (by decide)]).trans t4_14
      have t5_16 := (show ev5 16 = ev4 16 by rw [o5, va_up_ne _ _ (by decide)]).trans t4_16
      have t5_17 := (show ev5 17 = ev4 17 by rw [o5, va_up_ne _ _ (by decide)]).trans t4_17
      have t5_12 := (show ev5 12 = ev4 12 by rw [o5, va_up_ne _ _ (by decide)]).trans t4_12
      have t5_13 := (show ev5 13 = ev4 13 by rw [o5, va_up_ne _ _ (by decide)]).trans t4_13
      rw [show k = (n + 15) / 16 by omega] at o5 t5_15
      have t5_15x : ev5 15 = eJ G 5 (tagRow K X o n) := t5_15
      refine lv_aload_n hx hb d_Tg_tagInto_79 rfl (lv_at hl 1 rfl) ?_
      refine wv_getf hx hb h 12 (by decide) (fs := [.ref (ad 13), .ref (ad 15), .ref (ad 16), .ref (ad 17)]) t5_12 hts (fun w hw => List.mem_cons_of_mem _ (fW_Tg w hw)) hown (ci := 3) (C := "NonceBox$Tagger") (T := fT_Tg) (N := 4) rfl 0 (by decide) (hts _ (List.mem_cons_of_mem _ kf_Tg_16)) rfl (v := .ref (ad 13)) rfl d_Tg_tagInto_80 ?_
      refine lv_aload_n hx hb d_Tg_tagInto_83 rfl (lv_at hl 1 rfl) ?_
      refine wv_getf hx hb h 12 (by decide) (fs := [.ref (ad 13), .ref (ad 15), .ref (ad 16), .ref (ad 17)]) t5_12 hts (fun w hw => List.mem_cons_of_mem _ (fW_Tg w hw)) hown (ci := 3) (C := "NonceBox$Tagger") (T := fT_Tg) (N := 4) rfl 1 (by decide) (hts _ (List.mem_cons_of_mem _ kf_Tg_26)) rfl (v := .ref (ad 15)) rfl d_Tg_tagInto_84 ?_
      refine lv_aload hx hb d_Tg_tagInto_87 (lv_at hl 6 rfl) ?_
      refine lv_bipush (v := nI (16)) hx hb d_Tg_tagInto_89 (by decide) ?_
      refine wv_V (As := [.ref (ad 15), .ref (ad qt), .int (nI (16))]) (rest := []) (k := 3) ⟨hx, hb, hml, hown, hts⟩ h 13 (by decide) (C := "NonceBox$Field") t5_13 rfl (m_Fd_writeBytes l G A ad ev5 13 14 5 26 5 5 (by decide) t5_13 (by decide) (by decide) 15 qt Nt 16 (tagRow K X o n) T (by decide) hqt t5_15x t5_qt (by omega) (by omega) (by decide) nt nt2) kc_Fd_writeBytes kl_Tg_63 km_Fd_writeBytes kv_Fd_writeBytes ki_Fd (by decide +kernel) ⟨rfl, rfl, Nat.le_of_ble_eq_true rfl, Nat.le_of_ble_eq_true rfl⟩ hl.1 rfl rfl (Nat.le_of_ble_eq_true rfl) ⟨Nat.le_refl _, Nat.le_refl _⟩ d_Tg_tagInto_91 ?_
      intro ov ev6 H locs hp h
      rw [hp.1]
      refine W.eq (g2 := F0 m 94 ls []) rfl ?_
      have o6 : ev6 = (va_up ev5 qt (eB G Nt (bs (fil 0 16 (TAGB K X o n) T)))) := hp.2
      have t6_qt : ev6 qt = eB G Nt (bs (fil 0 16 (TAGB K X o n) T)) := by rw [o6, va_up_self]
      have t6_14 := (show ev6 14 = ev5 14 by rw [o6, va_up_ne _ _ (by omega)]).trans t5_14
      have t6_15 := (show ev6 15 = ev5 15 by rw [o6, va_up_ne _ _ (by omega)]).trans t5_15x
      have t6_16 := (show ev6 16 = ev5 16 by rw [o6, va_up_ne _ _ (by omega)]).trans t5_16
      have t6_17 := (show ev6 17 = ev5 17 by rw [o6, va_up_ne _ _ (by omega)]).trans t5_17
      have t6_12 := (show ev6 12 = ev5 12 by rw [o6, va_up_ne _ _ (by omega)]).trans t5_12
      have t6_13 := (show ev6 13 = ev5 13 by rw [o6, va_up_ne _ _ (by omega)]).trans t5_13
      refine wv_vret hx hb hr hlocks h d_Tg_tagInto_94 ⟨Wd, rfl, ?_⟩
      funext j
      by_cases c0 : j = 14
      · rw [c0, t6_14, va_up_ne _ _ (by omega), va_up_ne _ _ (by decide), va_up_ne _ _ (by decide), va_up_ne _ _ (by decide), va_up_self]
      by_cases c1 : j = 15
      · rw [c1, t6_15, va_up_ne _ _ (by omega), va_up_ne _ _ (by decide), va_up_ne _ _ (by decide), va_up_self]
      by_cases c2 : j = 16
      · rw [c2, t6_16, va_up_ne _ _ (by omega), va_up_ne _ _ (by decide), va_up_self]
      by_cases c3 : j = 17
      · rw [c3, t6_17, va_up_ne _ _ (by omega), va_up_self]
      by_cases c4 : j = qt
      · rw [c4, t6_qt, va_up_self]
      rw [va_up_ne _ _ c4, va_up_ne _ _ c3, va_up_ne _ _ c2, va_up_ne _ _ c1, va_up_ne _ _ c0]
      rw [o6, va_up_ne _ _ c4, o5, va_up_ne _ _ c1, o4, va_up_ne _ _ c1, o3, va_up_ne _ _ c1, va_up_ne _ _ c0, o2, va_up_ne _ _ c1, o1, va_up_ne _ _ c2, va_up_ne _ _ c3]
    | succ d ih =>
      intro k hk_k Wd ev3 H locs ls  o3 h hl
      have t3_14 : ev3 14 = eJ G 10 Wd := by rw [o3, va_up_ne _ _ (by decide), va_up_self]
      have t3_15 : ev3 15 = eJ G 5 (tgS (fRow K) X o n k) := by rw [o3, va_up_self]
      have t3_qk := (show ev3 qk = ev2 qk by rw [o3, va_up_ne _ _ (by omega), va_up_ne _ _ (by omega)]).trans t2_qk
      have t3_qx := (show ev3 qx = ev2 qx by rw [o3, va_up_ne _ _ (by omega), va_up_ne _ _ (by omega)]).trans t2_qx
      have t3_qt := (show ev3 qt = ev2 qt by rw [o3, va_up_ne _ _ (by omega), va_up_ne _ _ (by omega)]).trans t2_qt
      have t3_16 := (show ev3 16 = ev2 16 by rw [o3, va_up_ne _ _ (by decide), va_up_ne _ _ (by decide)]).trans t2_16
      have t3_17 := (show ev3 17 = ev2 17 by rw [o3, va_up_ne _ _ (by decide), va_up_ne _ _ (by decide)]).trans t2_17
      have t3_12 := (show ev3 12 = ev2 12 by rw [o3, va_up_ne _ _ (by decide), va_up_ne _ _ (by decide)]).trans t2_12
      have t3_13 := (show ev3 13 = ev2 13 by rw [o3, va_up_ne _ _ (by decide), va_up_ne _ _ (by decide)]).trans t2_13
      refine lv_iload hx hb d_Tg_tagInto_20 (lv_at hl 0 rfl) ?_
      refine lv_iload hx hb d_Tg_tagInto_22 (lv_at hl 5 rfl) ?_
      refine lv_icmp_ge (tgt := 52) hx hb d_Tg_tagInto_24 (by decide) (fun hc => absurd ((nI_leI (by omega) (by omega)).mp hc) (by omega)) (fun _ => ?_)
      refine lv_aload_n hx hb d_Tg_tagInto_27 rfl (lv_at hl 1 rfl) ?_
      refine lv_aload_n hx hb d_Tg_tagInto_28 rfl (lv_at hl 3 rfl) ?_
      refine lv_iload_n hx hb d_Tg_tagInto_29 rfl (lv_at hl 4 rfl) ?_
      refine lv_iload hx hb d_Tg_tagInto_30 (lv_at hl 0 rfl) ?_
      refine lv_iadd hx hb d_Tg_tagInto_32 ?_
      refine wv_top (nI_add _ _) ?_
      refine lv_bipush (v := nI (16)) hx hb d_Tg_tagInto_33 (by decide) ?_
      refine lv_iload hx hb d_Tg_tagInto_35 (lv_at hl 5 rfl) ?_
      refine lv_iload hx hb d_Tg_tagInto_37 (lv_at hl 0 rfl) ?_
      refine lv_isub hx hb d_Tg_tagInto_39 ?_
      refine wv_top (pk_sub (by omega)) ?_
      refine va_mmin hx hb (hml.trans hl.1.symm) hown (hts _ (List.mem_cons_of_mem _ kl_Tg_45)) (hts _ (List.mem_cons_of_mem _ ks_Ma_min)) (hts _ (List.mem_cons_of_mem _ ki_Ma)) (hts _ (List.mem_cons_of_mem _ kc_Ma_min)) (by decide) (Nat.le_of_ble_eq_true rfl) (Nat.le_refl _) (Nat.le_refl _) d_Tg_tagInto_40 ?_
      refine wv_top (jmin_eq (by omega) (by omega)) ?_
      refine wv_V (As := [.ref (ad qx), .int (nI (o + (16 * k))), .int (nI (min 16 (n - (16 * k))))]) (rest := []) (k := 3) ⟨hx, hb, hml, hown, hts⟩ h 12 (by decide) (C := "NonceBox$Tagger") t3_12 rfl (m_Tg_takePiece l G A ad ev3 qx Nx (o + 16 * k) (min 16 (n - 16 * k)) X (tgS (fRow K) X o n k) (fRow K) Wd t3_12 t3_13 hqx t3_qx hX t3_14 t3_15 t3_16 (by omega) (by omega) nx2 (by omega)) kc_Tg_takePiece kl_Tg_51 km_Tg_takePiece kv_Tg_takePiece ki_Tg (by decide +kernel) ⟨rfl, rfl, Nat.le_of_ble_eq_true rfl, Nat.le_of_ble_eq_true rfl⟩ hl.1 rfl rfl (Nat.le_of_ble_eq_true rfl) ⟨Nat.le_refl _, Nat.le_refl _⟩ d_Tg_tagInto_43 ?_
      intro ov ev4 H locs hp h
      obtain ⟨W2, hp⟩ := hp
      rw [hp.1]
      refine W.eq (g2 := F0 m 46 ls []) rfl ?_
      have o4 : ev4 = (va_up (va_up ev3 14 (eJ G 10 W2)) 15 (eJ G 5 (tgS (fRow K) X o n (k + 1)))) := hp.2
      have t4_14 : ev4 14 = eJ G 10 W2 := by rw [o4, va_up_ne _ _ (by decide), va_up_self]
      have t4_15 : ev4 15 = eJ G 5 (tgS (fRow K) X o n (k + 1)) := by rw [o4, va_up_self]
      have t4_qk := (show ev4 qk = ev3 qk by rw [o4, va_up_ne _ _ (by omega), va_up_ne _ _ (by omega)]).trans t3_qk
      have t4_qx := (show ev4 qx = ev3 qx by rw [o4, va_up_ne _ _ (by omega), va_up_ne _ _ (by omega)]).trans t3_qx
      have t4_qt := (show ev4 qt = ev3 qt by rw [o4, va_up_ne _ _ (by omega), va_up_ne _ _ (by omega)]).trans t3_qt
      have t4_16 := (show ev4 16 = ev3 16 by rw [o4, va_up_ne _ _ (by decide), va_up_ne _ _ (by decide)]).trans t3_16
      have t4_17 := (show ev4 17 = ev3 17 by rw [o4, va_up_ne _ _ (by decide), va_up_ne _ _ (by decide)]).trans t3_17
      have t4_12 := (show ev4 12 = ev3 12 by rw [o4, va_up_ne _ _ (by decide), va_up_ne _ _ (by decide)]).trans t3_12
      have t4_13 := (show ev4 13 = ev3 13 by rw [o4, va_up_ne _ _ (by decide), va_up_ne _ _ (by decide)]).trans t3_13
      refine lv_iinc (v := nI ((16 * k) + 16)) (lv' := [(6, .int (nI ((16 * k) + 16))), (0, .ref (ad 12)), (1, .ref (ad qk)), (2, .ref (ad qx)), (3, .int (nI (o))), (4, .int (nI (n))), (5, .ref (ad qt))]) hx hb d_Tg_tagInto_46 hl (k := 0) rfl (nI_add _ _) (by decide) rfl (fun ls hl => ?_)
      rw [show 16 * k + 16 = 16 * (k + 1) by omega] at hl
      refine lv_goto (tgt := 20) hx hb d_Tg_tagInto_49 (by decide) ?_
      refine ih (k + 1) (by omega) W2 ev4 H locs ls ?_ h (lv_sub hl [0, 1, 2, 3, 4, 5, 6] rfl)
      rw [o4, o3]
      funext j
      by_cases c0 : j = 14
      · subst c0; simp [va_up]
      by_cases c1 : j = 15
      · subst c1; simp [va_up]
      simp only [va_up, c0, c1, if_false]
  refine loop3 ((n + 15) / 16) 0 (by omega) r14 ev2 H locs ls ?_ h (lv_sub hl [0, 1, 2, 3, 4, 5, 6] rfl)
  rw [va_upi _ 14 t2_14]
  exact (va_upi _ 15 t2_15).symm
end
section
/-! ===== lN n to 2^64: shifts, and, or, masks, one bit ===== -/
theorem wb_tb (n : Nat) : (lN n).toBitVec = BitVec.ofNat 64 n := rfl
theorem wb_inj {a b : Int64} (h : a.toBitVec = b.toBitVec) : a = b := Int64.toBitVec_inj.mp h
theorem wb_tn {n : Nat} (h : n < 2 ^ 64) : (lN n).toBitVec.toNat = n := by rw [wb_tb, BitVec.toNat_ofNat, Nat.mod_eq_of_lt h]
theorem wb_of (x : Int64) : ∃ n, n < 2 ^ 64 ∧ x = lN n := ⟨x.toBitVec.toNat, x.toBitVec.isLt, wb_inj (by rw [wb_tb]; simp)⟩
theorem wb_of32 (x : Int32) : ∃ n, n < 2 ^ 32 ∧ x = nI n := ⟨x.toBitVec.toNat, x.toBitVec.isLt, Int32.toBitVec_inj.mp (by show _ = BitVec.ofNat 32 _; simp)⟩
theorem wb_c : ∀ k, k < 64 → ((nI k).toInt64 &&& 63) = lN k := by decide +kernel
theorem wb_cu : ∀ k, k < 64 → ((nI k).toInt64.toUInt64 &&& Int64.toUInt64 63) = UInt64.ofNat k := by decide +kernel
theorem wb_sm : ∀ k, k < 64 → (BitVec.ofNat 64 k).smod 64 = BitVec.ofNat 64 k := by decide +kernel
theorem wb_pw {a b : Nat} (h : a ≤ b) : 2 ^ b = 2 ^ a * 2 ^ (b - a) := by rw [← Nat.pow_add]; congr 1; omega
theorem wb_lt2 {a b : Nat} (h : a < b) : 2 ^ a < 2 ^ b := Nat.pow_lt_pow_right (by decide) h
theorem wb_mod (n : Nat) : lN n = lN (n % 2 ^ 64) := wb_inj (by rw [wb_tb, wb_tb]; apply BitVec.eq_of_toNat_eq; rw [BitVec.toNat_ofNat, BitVec.toNat_ofNat, Nat.mod_mod])
theorem wb_shr {n k : Nat} (hn : n < 2 ^ 64) (hk : k < 64) : ((lN n).toUInt64 >>> ((nI k).toInt64.toUInt64 &&& Int64.toUInt64 63)).toInt64 = lN (n / 2 ^ k) := by
  rw [wb_cu k hk]
  apply wb_inj
  apply BitVec.eq_of_toNat_eq
  show ((lN n).toUInt64 >>> UInt64.ofNat k).toNat = (BitVec.ofNat 64 _).toNat
  have h1 : (UInt64.ofNat k).toNat = k := by
    show (BitVec.ofNat 64 k).toNat = k
    rw [BitVec.toNat_ofNat, Nat.mod_eq_of_lt (by omega)]
  have h2 : (lN n).toUInt64.toNat = n := wb_tn hn
  rw [UInt64.toNat_shiftRight, h1, h2, Nat.mod_eq_of_lt hk, Nat.shiftRight_eq_div_pow, BitVec.toNat_ofNat, Nat.mod_eq_of_lt (Nat.lt_of_le_of_lt (Nat.div_le_self _ _) hn)]
theorem wb_shl (n : Nat) {k : Nat} (hk : k < 64) : lN n <<< ((nI k).toInt64 &&& 63) = lN (n * 2 ^ k) := by
  rw [wb_c k hk]
  apply wb_inj
  rw [Int64.toBitVec_shiftLeft, wb_tb, wb_tb, wb_tb, wb_sm k hk]
  apply BitVec.eq_of_toNat_eq
  rw [BitVec.shiftLeft_eq', BitVec.toNat_shiftLeft, BitVec.toNat_ofNat, BitVec.toNat_ofNat, BitVec.toNat_ofNat, Nat.mod_eq_of_lt (show k < 2 ^ 64 by omega), Nat.shiftLeft_eq, Nat.mul_mod, Nat.mod_mod, ← Nat.mul_mod]
theorem wb_and {a b : Nat} (ha : a < 2 ^ 64) (hb : b < 2 ^ 64) : lN a &&& lN b = lN (a &&& b) := by
  apply wb_inj
  rw [Int64.toBitVec_and, wb_tb, wb_tb, wb_tb]
  apply BitVec.eq_of_toNat_eq
  rw [BitVec.toNat_and, BitVec.toNat_ofNat, BitVec.toNat_ofNat, BitVec.toNat_ofNat, Nat.mod_eq_of_lt ha, Nat.mod_eq_of_lt hb, Nat.mod_eq_of_lt (Nat.and_lt_two_pow _ hb)]
theorem wb_or {a b : Nat} (ha : a < 2 ^ 64) (hb : b < 2 ^ 64) : lN a ||| lN b = lN (a ||| b) := by
  apply wb_inj
  rw [Int64.toBitVec_or, wb_tb, wb_tb, wb_tb]
  apply BitVec.eq_of_toNat_eq
  rw [BitVec.toNat_or, BitVec.toNat_ofNat, BitVec.toNat_ofNat, BitVec.toNat_ofNat, Nat.mod_eq_of_lt ha, Nat.mod_eq_of_lt hb, Nat.mod_eq_of_lt (Nat.or_lt_two_pow ha hb)]
theorem wb_mask {n k : Nat} (hn : n < 2 ^ 64) (hk : k < 64) : lN n &&& lN (2 ^ k - 1) = lN (n % 2 ^ k) := by
  rw [wb_and hn (by have := wb_lt2 hk; omega), Nat.and_two_pow_sub_one_eq_mod]
theorem wb_a1 {n : Nat} (hn : n < 2 ^ 64) : lN n &&& 1 = lN (n % 2) := wb_mask (k := 1) hn (by decide)
theorem wb_bit {n k : Nat} (hn : n < 2 ^ 64) (hk : k < 64) : ((lN n).toUInt64 >>> ((nI k).toInt64.toUInt64 &&& Int64.toUInt64 63)).toInt64 &&& 1 = lN (n / 2 ^ k % 2) := by
  rw [wb_shr hn hk, wb_a1 (Nat.lt_of_le_of_lt (Nat.div_le_self _ _) hn)]
theorem wb_xor {q k : Nat} (hk : k < 63) (h : 2 ^ k ≤ q) (h2 : q < 2 ^ (k + 1)) : lN q ^^^ lN (2 ^ k) = lN (q - 2 ^ k) := by
  obtain ⟨r, rfl⟩ : ∃ r, q = 2 ^ k + r := ⟨q - 2 ^ k, by omega⟩
  have hr : r < 2 ^ k := by rw [Nat.pow_succ] at h2; omega
  have hx : (2 ^ k + r) ^^^ 2 ^ k = r := by
    apply Nat.eq_of_testBit_eq
    intro i
    rw [Nat.testBit_xor, Nat.testBit_two_pow]
    rcases Nat.lt_trichotomy i k with h | h | h
    · rw [Nat.testBit_two_pow_add_gt h]
      simp [show ¬ k = i by omega]
    · subst h
      rw [Nat.testBit_two_pow_add_eq]
      simp
    · have a1 : 2 ^ (k + 1) ≤ 2 ^ i := Nat.pow_le_pow_right (by decide) h
      rw [Nat.testBit_lt_two_pow (show 2 ^ k + r < 2 ^ i by omega), Nat.testBit_lt_two_pow (show r < 2 ^ i by omega)]
      simp [show ¬ k = i by omega]
  have b1 := wb_lt2 (show k + 1 < 64 by omega)
  have b2 := wb_lt2 (show k < 64 by omega)
  apply wb_inj
  rw [Int64.toBitVec_xor, wb_tb, wb_tb, wb_tb]
  apply BitVec.eq_of_toNat_eq
  rw [BitVec.toNat_xor, BitVec.toNat_ofNat, BitVec.toNat_ofNat, BitVec.toNat_ofNat, Nat.mod_eq_of_lt (by omega : 2 ^ k + r < 2 ^ 64), Nat.mod_eq_of_lt b2, hx, Nat.add_sub_cancel_left, Nat.mod_eq_of_lt (by omega)]
/-! ===== lN: masks, 'or' of parts that don't overlap is a sum ===== -/
theorem u_tn {n : Nat} (h : n < 2 ^ 64) : (UInt64.ofNat n).toNat = n := Nat.mod_eq_of_lt h
theorem g_and {a b c : Nat} (ha : a < 2 ^ 64) (hb : b < 2 ^ 64) (hc : a &&& b = c) : lN a &&& lN b = lN c := by
  subst hc
  have h : UInt64.ofNat a &&& UInt64.ofNat b = UInt64.ofNat (a &&& b) := UInt64.toNat_inj.mp (by rw [UInt64.toNat_and, u_tn ha, u_tn hb, u_tn (Nat.and_lt_two_pow a hb)])
  have h2 := congrArg UInt64.toInt64 h
  exact h2
theorem g_and1 {a : Nat} (ha : a < 2 ^ 64) : lN a &&& 1 = lN (a % 2) := g_and (b := 1) ha (by decide) (Nat.and_two_pow_sub_one_eq_mod a 1)
theorem g_mask {a s p : Nat} (hp : 2 ^ s = p) (hs : s < 64) (ha : a < 2 ^ 64) : lN a &&& lN (p - 1) = lN (a % p) := by
  subst hp
  have := Nat.pow_lt_pow_right (show 1 < 2 by decide) hs
  exact g_and ha (by omega) (Nat.and_two_pow_sub_one_eq_mod a s)
theorem g_or {k p a b : Nat} (hp : 2 ^ k = p) (ha : a < p) (h : b * p + a < 2 ^ 64) : lN (b * p) ||| lN a = lN (b * p + a) := by
  subst hp
  have h1 : b * 2 ^ k ||| a = b * 2 ^ k + a := by rw [← Nat.shiftLeft_eq, Nat.shiftLeft_add_eq_or_of_lt ha]
  have h3 : UInt64.ofNat (b * 2 ^ k) ||| UInt64.ofNat a = UInt64.ofNat (b * 2 ^ k + a) := UInt64.toNat_inj.mp (by rw [UInt64.toNat_or, u_tn (by omega), u_tn (by omega), u_tn h, h1])
  have h2 := congrArg UInt64.toInt64 h3
  exact h2
theorem g_or' {k p a b : Nat} (hp : 2 ^ k = p) (ha : a < p) (h : a + b * p < 2 ^ 64) : lN a ||| lN (b * p) = lN (a + b * p) := by
  rw [Int64.or_comm, g_or hp ha (by omega), Nat.add_comm]
theorem g_ushr {a k p : Nat} {y : UInt64} (hy : y = UInt64.ofNat k) (hk : k < 64) (hp : 2 ^ k = p) (ha : a < 2 ^ 64) : ((lN a).toUInt64 >>> y).toInt64 = lN (a / p) := by
  subst hy hp
  have h : UInt64.ofNat a >>> UInt64.ofNat k = UInt64.ofNat (a / 2 ^ k) := UInt64.toNat_inj.mp (by rw [UInt64.toNat_shiftRight, u_tn ha, u_tn (by omega), u_tn (Nat.lt_of_le_of_lt (Nat.div_le_self _ _) ha), Nat.mod_eq_of_lt hk, Nat.shiftRight_eq_div_pow])
  have h2 := congrArg UInt64.toInt64 h
  exact h2
theorem g_shl {a k p : Nat} {y : Int64} (hy : y.toBitVec.smod 64 = BitVec.ofNat 64 k) (hk : k < 64) (hp : 2 ^ k = p) (ha : a < 2 ^ 64) : lN a <<< y = lN (a * p) := by
  subst hp
  apply Int64.toBitVec_inj.mp
  rw [Int64.toBitVec_shiftLeft, hy]
  apply BitVec.eq_of_toNat_eq
  have hb : (lN a).toBitVec.toNat = a := Nat.mod_eq_of_lt ha
  have hk' : (BitVec.ofNat 64 k).toNat = k := Nat.mod_eq_of_lt (by omega)
  have h : ((lN a).toBitVec <<< BitVec.ofNat 64 k).toNat = (a * 2 ^ k) % 2 ^ 64 := by simp only [BitVec.shiftLeft_eq', BitVec.toNat_shiftLeft, hb, hk', Nat.shiftLeft_eq]
  exact h
end
section
/-! pure: rows of limbs of 26 bits as whole numbers -/
def wd8 (B : Nat → Nat) (o : Nat) : Nat → Nat
  | 0 => 0
  | k + 1 => wd8 B o k + B (o + k) * 2 ^ (8 * k)
theorem sar_i (x : Int64) {k : Nat} (hk : k < 64) : (sar x k).toInt = x.toInt / 2 ^ k := by
  unfold sar
  rw [wb_c k hk]
  have h1 : (x >>> lN k).toInt = x.toInt >>> k := by
    show (x.toBitVec.sshiftRight' ((lN k).toBitVec.smod 64)).toInt = _
    rw [wb_tb, wb_sm k hk, BitVec.sshiftRight_eq', BitVec.toInt_sshiftRight, BitVec.toNat_ofNat, Nat.mod_eq_of_lt (by omega)]
    rfl
  rw [h1, Int.shiftRight_eq_div_pow]
  rfl
theorem add_i {x y : Int64} (h1 : -9223372036854775808 ≤ x.toInt + y.toInt) (h2 : x.toInt + y.toInt < 9223372036854775808) : (x + y).toInt = x.toInt + y.toInt := by
  rw [Int64.toInt_add]
  exact Int.bmod_eq_of_le (by omega) (by omega)
theorem sub_i {x y : Int64} (h1 : -9223372036854775808 ≤ x.toInt - y.toInt) (h2 : x.toInt - y.toInt < 9223372036854775808) : (x - y).toInt = x.toInt - y.toInt := by
  rw [Int64.toInt_sub]
  exact Int.bmod_eq_of_le (by omega) (by omega)
theorem mul_i {x y : Int64} (h1 : -9223372036854775808 ≤ x.toInt * y.toInt) (h2 : x.toInt * y.toInt < 9223372036854775808) : (x * y).toInt = x.toInt * y.toInt := by
  rw [Int64.toInt_mul]
  exact Int.bmod_eq_of_le (by omega) (by omega)
theorem msk_i (x : Int64) : (x &&& 67108863).toInt = x.toInt % 67108864 := by
  obtain ⟨n, hn, rfl⟩ := wb_of x
  have h : lN n &&& 67108863 = lN (n % 67108864) := g_mask (s := 26) (p := 67108864) rfl (by decide) hn
  rw [h, pk_lT (by omega)]
  have e : (lN n).toInt = (n : Int) ∨ (lN n).toInt = (n : Int) - 18446744073709551616 := by
    have c := BitVec.toInt_eq_toNat_cond (lN n).toBitVec
    rw [wb_tn hn] at c
    show (lN n).toBitVec.toInt = _ ∨ (lN n).toBitVec.toInt = _
    rw [c]
    by_cases q : 2 * n < 2 ^ 64
    · rw [if_pos q]; exact Or.inl rfl
    · rw [if_neg q]; exact Or.inr rfl
  rcases e with e | e <;> rw [e] <;> omega
/-- the number of a row's first n limbs -/
def vI (f : Nat → Int64) : Nat → Int
  | 0 => 0
  | n + 1 => vI f n + (f n).toInt * 2 ^ (26 * n)
theorem p26 (k : Nat) : (2 : Int) ^ (26 * (k + 1)) = 67108864 * 2 ^ (26 * k) := by
  rw [show 26 * (k + 1) = 26 + 26 * k by omega, Int.pow_add]
  rfl
theorem vI_up (f : Nat → Int64) (k : Nat) (v : Int64) : ∀ n, vI (va_up f k v) n = vI f n + if k < n then (v.toInt - (f k).toInt) * 2 ^ (26 * k) else 0
  | 0 => by simp [vI]
  | n + 1 => by
    rw [vI, vI, vI_up f k v n]
    by_cases h : n = k
    · subst h
      rw [va_up_self, if_neg (Nat.lt_irrefl _), if_pos (Nat.lt_succ_self _)]
      grind
    · rw [va_up_ne _ _ h]
      by_cases h2 : k < n
      · rw [if_pos h2, if_pos (by omega)]; grind
      · rw [if_neg h2, if_neg (by omega)]; grind
theorem vI_congr {f g : Nat → Int64} : ∀ {n : Nat}, (∀ j, j < n → f j = g j) → vI f n = vI g n
  | 0, _ => rfl
  | n + 1, h => by
    rw [vI, vI, vI_congr (fun j hj => h j (by omega)), h n (by omega)]
theorem lN_i32 (n : Nat) : (lN n).toInt32.toBitVec.toNat % 256 = n % 256 := by
  rw [lN_i]
  show (BitVec.ofNat 32 n).toNat % 256 = _
  rw [BitVec.toNat_ofNat]
  omega
end
section
/-! carries, folds, products: their numbers -/
theorem cry_spec (f : Nat → Int64) (N : Nat) (hf : ∀ i, i < N → -4611686018427387904 ≤ (f i).toInt ∧ (f i).toInt ≤ 4611686018427387904) : ∀ k, k < N →
    (∀ i, i < k → 0 ≤ (cry f k i).toInt ∧ (cry f k i).toInt < 67108864) ∧ (∀ i, k < i → cry f k i = f i) ∧ (-4611686155866341376 ≤ (cry f k k).toInt ∧ (cry f k k).toInt ≤ 4611686155866341376) ∧ ∀ M, k < M → vI (cry f k) M = vI f M
  | 0, h0 => ⟨fun i h => absurd h (by omega), fun _ _ => rfl, by have := hf 0 h0; exact ⟨by show _ ≤ (f 0).toInt; omega, by show (f 0).toInt ≤ _; omega⟩, fun _ _ => rfl⟩
  | k + 1, hk => by
    obtain ⟨h1, h2, h3, h4⟩ := cry_spec f N hf k (by omega)
    have hn := hf (k + 1) hk
    have ek : cry f k (k + 1) = f (k + 1) := h2 _ (by omega)
    obtain ⟨a, ha⟩ : ∃ a, a = (cry f k k).toInt := ⟨_, rfl⟩
    rw [← ha] at h3
    have es : (sar (cry f k k) 26).toInt = a / 67108864 := by rw [sar_i _ (by decide), ← ha]; rfl
    have e1 : (cry f k (k + 1) + sar (cry f k k) 26).toInt = (f (k + 1)).toInt + a / 67108864 := by
      rw [add_i (by rw [ek, es]; omega) (by rw [ek, es]; omega), ek, es]
    have c1 : cry f (k + 1) (k + 1) = cry f k (k + 1) + sar (cry f k k) 26 := by
      show cr1 k (cry f k) (k + 1) = _
      unfold cr1
      rw [va_up_ne _ _ (by omega), va_up_self]
    have c0 : cry f (k + 1) k = cry f k k &&& 67108863 := by
      show cr1 k (cry f k) k = _
      unfold cr1
      rw [va_up_self, va_up_ne _ _ (by omega)]
    have co : ∀ i, i ≠ k → i ≠ k + 1 → cry f (k + 1) i = cry f k i := by
      intro i hi hi2
      show cr1 k (cry f k) i = _
      unfold cr1
      rw [va_up_ne _ _ hi, va_up_ne _ _ hi2]
    refine ⟨?_, ?_, ?_, ?_⟩
    · intro i hi
      by_cases hik : i = k
      · rw [hik, c0, msk_i]; omega
      · rw [co i hik (by omega)]; exact h1 i (by omega)
    · intro i hi
      rw [co i (by omega) (by omega)]; exact h2 i (by omega)
    · rw [c1, e1]; omega
    · intro M hM
      rw [← h4 M (by omega)]
      show vI (cr1 k (cry f k)) M = _
      unfold cr1
      rw [vI_up, vI_up, if_pos hM, if_pos (show k < M by omega), e1, ek, va_up_ne _ _ (by omega), msk_i, ← ha, p26]
      have hd : a = 67108864 * (a / 67108864) + a % 67108864 := by omega
      generalize a / 67108864 = u at hd ⊢
      generalize a % 67108864 = v at hd ⊢
      subst hd
      grind
theorem vI_rng {f : Nat → Int64} : ∀ {n : Nat}, (∀ i, i < n → 0 ≤ (f i).toInt ∧ (f i).toInt < 67108864) → 0 ≤ vI f n ∧ vI f n < 2 ^ (26 * n)
  | 0, _ => by simp [vI]
  | n + 1, h => by
    obtain ⟨a, b⟩ := vI_rng (n := n) (fun i hi => h i (by omega))
    obtain ⟨c, d⟩ := h n (by omega)
    have hp : (0 : Int) < 2 ^ (26 * n) := Int.pow_pos (by decide)
    rw [vI, p26]
    have e1 : 0 ≤ (f n).toInt * 2 ^ (26 * n) := Int.mul_nonneg c (by omega)
    have e2 : (f n).toInt * 2 ^ (26 * n) ≤ 67108863 * 2 ^ (26 * n) := Int.mul_le_mul_of_nonneg_right (by omega) (by omega)
    omega
/-- the top limb of a carried row is what its number has above -/
theorem cry_top (f : Nat → Int64) {N : Nat} (hN : 1 ≤ N) (hf : ∀ i, i < N → -4611686018427387904 ≤ (f i).toInt ∧ (f i).toInt ≤ 4611686018427387904) :
    (∀ i, i < N - 1 → 0 ≤ (cry f (N - 1) i).toInt ∧ (cry f (N - 1) i).toInt < 67108864) ∧ vI (cry f (N - 1)) N = vI f N ∧ ∃ r : Int, 0 ≤ r ∧ r < 2 ^ (26 * (N - 1)) ∧ vI f N = r + (cry f (N - 1) (N - 1)).toInt * 2 ^ (26 * (N - 1)) := by
  obtain ⟨h1, -, -, h4⟩ := cry_spec f N hf (N - 1) (by omega)
  have e := h4 N (by omega)
  obtain ⟨a, b⟩ := vI_rng h1
  refine ⟨h1, e, vI (cry f (N - 1)) (N - 1), a, b, ?_⟩
  rw [← e]
  obtain ⟨k, rfl⟩ : ∃ k, N = k + 1 := ⟨N - 1, by omega⟩
  rfl
theorem sal_i {x : Int64} {k : Nat} (hk : k < 63) (h1 : -9223372036854775808 ≤ x.toInt * 2 ^ k) (h2 : x.toInt * 2 ^ k < 9223372036854775808) : (sal x k).toInt = x.toInt * 2 ^ k := by
  obtain ⟨n, hn, rfl⟩ := wb_of x
  unfold sal
  rw [wb_shl _ (by omega)]
  have e : (lN n * lN (2 ^ k)).toInt = (lN n).toInt * 2 ^ k := by
    have e2 : (lN (2 ^ k)).toInt = 2 ^ k := by
      rw [pk_lT (Nat.pow_lt_pow_right (by decide) (by omega))]
      exact Int.natCast_pow 2 k
    rw [mul_i (by rw [e2]; exact h1) (by rw [e2]; exact h2), e2]
  rw [← e, lN_mul]
theorem fTop_G (n tb : Nat) (low : Int64) (lw B : Int) (f : Nat → Int64) (hn : 2 ≤ n) (htb : tb ≤ 26) (hlow : low.toInt = lw) (hlw : 0 ≤ lw) (hB : 0 ≤ B ∧ B ≤ 2305843009213693952) (hlB : lw * (B + 1) ≤ 2305843009213693952) (hf : ∀ i, i < n → -4611686018427387904 ≤ (f i).toInt ∧ (f i).toInt ≤ 4611686018427387904)
    (hV : -(B * 2 ^ (26 * (n - 1))) ≤ vI f n ∧ vI f n ≤ B * 2 ^ (26 * (n - 1))) :
    ∃ (r T g0 : Int), 0 ≤ r ∧ r < 2 ^ (26 * (n - 1)) ∧ vI f n = r + T * 2 ^ (26 * (n - 1)) ∧ 0 ≤ g0 ∧ g0 < 67108864 ∧ (fTop n tb low f 0).toInt = g0 + lw * (T / 2 ^ tb) ∧ (∀ i, 1 ≤ i → i < n - 1 → 0 ≤ (fTop n tb low f i).toInt ∧ (fTop n tb low f i).toInt < 67108864) ∧ (fTop n tb low f (n - 1)).toInt = T % 2 ^ tb ∧ vI (fTop n tb low f) n = vI f n - (T / 2 ^ tb) * (2 ^ tb * 2 ^ (26 * (n - 1)) - lw) := by
  obtain ⟨h1, h2, r, hr0, hr1, hr2⟩ := cry_top f (by omega) hf
  obtain ⟨g, hg⟩ : ∃ g, g = cry f (n - 1) := ⟨_, rfl⟩
  obtain ⟨T, hT⟩ : ∃ T, T = (g (n - 1)).toInt := ⟨_, rfl⟩
  rw [← hg] at h1 h2 hr2
  rw [← hT] at hr2
  have hp : (0 : Int) < 2 ^ (26 * (n - 1)) := Int.pow_pos (by decide)
  have hT1 : T ≤ B := by
    refine Int.le_of_mul_le_mul_right (a := 2 ^ (26 * (n - 1))) ?_ hp
    omega
  have hT2 : -(B + 1) ≤ T := by
    refine Int.le_of_mul_le_mul_right (a := 2 ^ (26 * (n - 1))) ?_ hp
    have e : -(B + 1) * 2 ^ (26 * (n - 1)) = -(B * 2 ^ (26 * (n - 1))) - 2 ^ (26 * (n - 1)) := by grind
    omega
  obtain ⟨Q, hQ⟩ : ∃ Q : Int, Q = 2 ^ tb := ⟨_, rfl⟩
  have hQ0 : 0 < Q := by rw [hQ]; exact Int.pow_pos (by decide)
  have hQ1 : Q ≤ 67108864 := by
    rw [hQ]
    have h := Int.ofNat_le.mpr (Nat.pow_le_pow_right (show 2 > 0 by decide) htb)
    rw [Int.natCast_pow] at h
    exact h
  obtain ⟨hi, hhi⟩ : ∃ hi, hi = T / Q := ⟨_, rfl⟩
  have hdm : T = Q * hi + T % Q := by rw [hhi]; exact (Int.mul_ediv_add_emod T Q).symm
  have hm0 : 0 ≤ T % Q := Int.emod_nonneg _ (by omega)
  have hm1 : T % Q < Q := Int.emod_lt_of_pos _ hQ0
  have hhi1 : hi ≤ B := by
    rw [hhi]
    refine Int.ediv_le_of_le_mul hQ0 ?_
    have := Int.mul_le_mul_of_nonneg_left (show (1 : Int) ≤ Q by omega) hB.1
    omega
  have hhi2 : -(B + 1) ≤ hi := by
    rw [hhi]
    refine Int.le_ediv_of_mul_le hQ0 ?_
    have := Int.mul_le_mul_of_nonneg_left (show (1 : Int) ≤ Q by omega) (show 0 ≤ B + 1 by omega)
    have e : -(B + 1) * Q = -((B + 1) * Q) := by grind
    omega
  have es : (sar (g (n - 1)) tb).toInt = hi := by rw [sar_i _ (by omega), ← hT, hhi, hQ]
  have el : (sal (sar (g (n - 1)) tb) tb).toInt = hi * Q := by
    rw [sal_i (by omega) (by rw [es, ← hQ, Int.mul_comm]; omega) (by rw [es, ← hQ, Int.mul_comm]; omega), es, hQ]
  have et : (g (n - 1) - sal (sar (g (n - 1)) tb) tb).toInt = T % Q := by
    rw [sub_i (by rw [← hT, el, Int.mul_comm]; omega) (by rw [← hT, el, Int.mul_comm]; omega), ← hT, el, Int.mul_comm]; omega
  have hlh1 : lw * hi ≤ 2305843009213693952 := by
    have h5 := Int.mul_le_mul_of_nonneg_left (show hi ≤ B + 1 by omega) hlw
    omega
  have hlh2 : -2305843009213693952 ≤ lw * hi := by
    have h5 := Int.mul_le_mul_of_nonneg_left hhi2 hlw
    have e : lw * -(B + 1) = -(lw * (B + 1)) := by grind
    omega
  have em : (low * sar (g (n - 1)) tb).toInt = lw * hi := by
    rw [mul_i (by rw [hlow, es]; omega) (by rw [hlow, es]; omega), hlow, es]
  have hg0 := h1 0 (by omega)
  have eR : fTop n tb low f = va_up (va_up g (n - 1) (g (n - 1) - sal (sar (g (n - 1)) tb) tb)) 0 (va_up g (n - 1) (g (n - 1) - sal (sar (g (n - 1)) tb) tb) 0 + low * sar (g (n - 1)) tb) := by
    rw [hg]; rfl
  have e0 : (va_up g (n - 1) (g (n - 1) - sal (sar (g (n - 1)) tb) tb) 0 + low * sar (g (n - 1)) tb).toInt = (g 0).toInt + lw * hi := by
    rw [va_up_ne _ _ (by omega), add_i (by rw [em]; omega) (by rw [em]; omega), em]
  rw [← hQ]
  refine ⟨r, T, (g 0).toInt, hr0, hr1, hr2, hg0.1, hg0.2, ?_, ?_, ?_, ?_⟩
  · rw [eR, va_up_self, e0, hhi]
  · intro i hi1 hi2
    rw [eR, va_up_ne _ _ (by omega), va_up_ne _ _ (by omega)]
    exact h1 i hi2
  · rw [eR, va_up_ne _ _ (by omega), va_up_self, et]
  · rw [eR, vI_up, vI_up, if_pos (by omega), if_pos (by omega), e0, et, ← hT, va_up_ne _ _ (by omega), h2, ← hhi, Nat.mul_zero]
    generalize T % Q = v at hdm
    rw [hdm]
    grind
theorem fTop_spec (n tb : Nat) (low : Int64) (lw : Int) (f : Nat → Int64) (hn : 2 ≤ n) (htb : tb ≤ 26) (hlow : low.toInt = lw) (hlw : 0 ≤ lw ∧ lw ≤ 1000) (hf : ∀ i, i < n → -4611686018427387904 ≤ (f i).toInt ∧ (f i).toInt ≤ 4611686018427387904)
    (hV : -1099511627776 * 2 ^ (26 * (n - 1)) ≤ vI f n ∧ vI f n ≤ 1099511627776 * 2 ^ (26 * (n - 1))) :
    ∃ (r T g0 : Int), 0 ≤ r ∧ r < 2 ^ (26 * (n - 1)) ∧ vI f n = r + T * 2 ^ (26 * (n - 1)) ∧ 0 ≤ g0 ∧ g0 < 67108864 ∧ (fTop n tb low f 0).toInt = g0 + lw * (T / 2 ^ tb) ∧ (∀ i, 1 ≤ i → i < n - 1 → 0 ≤ (fTop n tb low f i).toInt ∧ (fTop n tb low f i).toInt < 67108864) ∧ (fTop n tb low f (n - 1)).toInt = T % 2 ^ tb ∧ vI (fTop n tb low f) n = vI f n - (T / 2 ^ tb) * (2 ^ tb * 2 ^ (26 * (n - 1)) - lw) := by
  refine fTop_G n tb low lw 1099511627776 f hn htb hlow hlw.1 (by decide) ?_ hf ?_
  · have := Int.mul_le_mul_of_nonneg_right hlw.2 (show (0 : Int) ≤ 1099511627776 + 1 by decide)
    omega
  · have e : -(1099511627776 * 2 ^ (26 * (n - 1)) : Int) = -1099511627776 * 2 ^ (26 * (n - 1)) := by grind
    rw [e]
    exact hV
end
