section
-- ===== PART A: goes FIRST, ahead of the names: the tables' words, and 'selects' of the private methods out of them =====
/-- a private method of a class that the tables say can be made, by its rows of tables_1 -/
def lw_okq (q : MethodName × Nat) : Prop := (q.1.cls ≠ "java/lang/invoke/MethodHandle" ∧ q.1.cls ≠ "java/lang/invoke/VarHandle") ∧ Cond.instantiable q.1.cls q.2 ∈ tables_1 ∧ Cond.privateMethod q.1 ∈ tables_1 ∧ Cond.instanceMethod q.1 ∈ tables_1
theorem lw_p0 : lw_okq (⟨"java/lang/Throwable", "fillInStackTrace", "(I)Ljava/lang/Throwable;"⟩, 6) := ⟨⟨by decide +kernel, by decide +kernel⟩, List.mem_of_getElem? (i := 415) (by decide +kernel), List.mem_of_getElem? (i := 413) (by decide +kernel), List.mem_of_getElem? (i := 414) (by decide +kernel)⟩
theorem lw_p1 : lw_okq (⟨"SlateRoof", "withLengths", "(J)J"⟩, 4) := ⟨⟨by decide +kernel, by decide +kernel⟩, List.mem_of_getElem? (i := 17) (by decide +kernel), List.mem_of_getElem? (i := 476) (by decide +kernel), List.mem_of_getElem? (i := 477) (by decide +kernel)⟩
theorem lw_p2 : lw_okq (⟨"SlateRoof", "withCourses", "(J)J"⟩, 4) := ⟨⟨by decide +kernel, by decide +kernel⟩, List.mem_of_getElem? (i := 17) (by decide +kernel), List.mem_of_getElem? (i := 498) (by decide +kernel), List.mem_of_getElem? (i := 499) (by decide +kernel)⟩
theorem lw_p3 : lw_okq (⟨"SlateRoofModel", "fails", "(I)I"⟩, 14) := ⟨⟨by decide +kernel, by decide +kernel⟩, List.mem_of_getElem? (i := 723) (by decide +kernel), List.mem_of_getElem? (i := 783) (by decide +kernel), List.mem_of_getElem? (i := 784) (by decide +kernel)⟩
theorem lw_p4 : lw_okq (⟨"SlateRoofModel", "save", "()V"⟩, 14) := ⟨⟨by decide +kernel, by decide +kernel⟩, List.mem_of_getElem? (i := 723) (by decide +kernel), List.mem_of_getElem? (i := 787) (by decide +kernel), List.mem_of_getElem? (i := 788) (by decide +kernel)⟩
theorem lw_p5 : lw_okq (⟨"SlateRoofModel", "onRoof", "()I"⟩, 14) := ⟨⟨by decide +kernel, by decide +kernel⟩, List.mem_of_getElem? (i := 723) (by decide +kernel), List.mem_of_getElem? (i := 791) (by decide +kernel), List.mem_of_getElem? (i := 792) (by decide +kernel)⟩
theorem lw_p6 : lw_okq (⟨"SlateRoofModel", "liesIn", "(I)I"⟩, 14) := ⟨⟨by decide +kernel, by decide +kernel⟩, List.mem_of_getElem? (i := 723) (by decide +kernel), List.mem_of_getElem? (i := 795) (by decide +kernel), List.mem_of_getElem? (i := 796) (by decide +kernel)⟩
theorem lw_p7 : lw_okq (⟨"SlateRoofModel", "placesOf", "(I)I"⟩, 14) := ⟨⟨by decide +kernel, by decide +kernel⟩, List.mem_of_getElem? (i := 723) (by decide +kernel), List.mem_of_getElem? (i := 799) (by decide +kernel), List.mem_of_getElem? (i := 800) (by decide +kernel)⟩
theorem lw_p8 : lw_okq (⟨"SlateRoofModel", "isThere", "(II)Z"⟩, 14) := ⟨⟨by decide +kernel, by decide +kernel⟩, List.mem_of_getElem? (i := 723) (by decide +kernel), List.mem_of_getElem? (i := 803) (by decide +kernel), List.mem_of_getElem? (i := 804) (by decide +kernel)⟩
theorem lw_p9 : lw_okq (⟨"SlateRoofModel", "sum", "(I)I"⟩, 14) := ⟨⟨by decide +kernel, by decide +kernel⟩, List.mem_of_getElem? (i := 723) (by decide +kernel), List.mem_of_getElem? (i := 818) (by decide +kernel), List.mem_of_getElem? (i := 819) (by decide +kernel)⟩
theorem lw_p10 : lw_okq (⟨"SlateRoofModel", "isDry", "()Z"⟩, 14) := ⟨⟨by decide +kernel, by decide +kernel⟩, List.mem_of_getElem? (i := 723) (by decide +kernel), List.mem_of_getElem? (i := 838) (by decide +kernel), List.mem_of_getElem? (i := 839) (by decide +kernel)⟩
theorem lw_p11 : lw_okq (⟨"SlateRoofModel", "longest", "()I"⟩, 14) := ⟨⟨by decide +kernel, by decide +kernel⟩, List.mem_of_getElem? (i := 723) (by decide +kernel), List.mem_of_getElem? (i := 842) (by decide +kernel), List.mem_of_getElem? (i := 843) (by decide +kernel)⟩
theorem lw_p12 : lw_okq (⟨"SlateRoofModel", "top", "()I"⟩, 14) := ⟨⟨by decide +kernel, by decide +kernel⟩, List.mem_of_getElem? (i := 723) (by decide +kernel), List.mem_of_getElem? (i := 846) (by decide +kernel), List.mem_of_getElem? (i := 847) (by decide +kernel)⟩
theorem lw_p13 : lw_okq (⟨"SlateRoofModel", "topOf", "(I)I"⟩, 14) := ⟨⟨by decide +kernel, by decide +kernel⟩, List.mem_of_getElem? (i := 723) (by decide +kernel), List.mem_of_getElem? (i := 850) (by decide +kernel), List.mem_of_getElem? (i := 851) (by decide +kernel)⟩
theorem lw_p14 : lw_okq (⟨"SlateRoofModel", "gauge", "(I)I"⟩, 14) := ⟨⟨by decide +kernel, by decide +kernel⟩, List.mem_of_getElem? (i := 723) (by decide +kernel), List.mem_of_getElem? (i := 854) (by decide +kernel), List.mem_of_getElem? (i := 855) (by decide +kernel)⟩
theorem lw_p15 : lw_okq (⟨"SlateRoofModel", "lastCourse", "()I"⟩, 14) := ⟨⟨by decide +kernel, by decide +kernel⟩, List.mem_of_getElem? (i := 723) (by decide +kernel), List.mem_of_getElem? (i := 858) (by decide +kernel), List.mem_of_getElem? (i := 859) (by decide +kernel)⟩
def lw_privs_1 : List (MethodName × Nat) := [(⟨"java/lang/Throwable", "fillInStackTrace", "(I)Ljava/lang/Throwable;"⟩, 6), (⟨"SlateRoof", "withLengths", "(J)J"⟩, 4), (⟨"SlateRoof", "withCourses", "(J)J"⟩, 4), (⟨"SlateRoofModel", "fails", "(I)I"⟩, 14), (⟨"SlateRoofModel", "save", "()V"⟩, 14), (⟨"SlateRoofModel", "onRoof", "()I"⟩, 14), (⟨"SlateRoofModel", "liesIn", "(I)I"⟩, 14), (⟨"SlateRoofModel", "placesOf", "(I)I"⟩, 14), (⟨"SlateRoofModel", "isThere", "(II)Z"⟩, 14), (⟨"SlateRoofModel", "sum", "(I)I"⟩, 14), (⟨"SlateRoofModel", "isDry", "()Z"⟩, 14), (⟨"SlateRoofModel", "longest", "()I"⟩, 14), (⟨"SlateRoofModel", "top", "()I"⟩, 14), (⟨"SlateRoofModel", "topOf", "(I)I"⟩, 14), (⟨"SlateRoofModel", "gauge", "(I)I"⟩, 14), (⟨"SlateRoofModel", "lastCourse", "()I"⟩, 14)]
theorem lw_r1 : ∀ q ∈ lw_privs_1, lw_okq q := List.forall_mem_cons.mpr ⟨lw_p0, List.forall_mem_cons.mpr ⟨lw_p1, List.forall_mem_cons.mpr ⟨lw_p2, List.forall_mem_cons.mpr ⟨lw_p3, List.forall_mem_cons.mpr ⟨lw_p4, List.forall_mem_cons.mpr ⟨lw_p5, List.forall_mem_cons.mpr ⟨lw_p6, List.forall_mem_cons.mpr ⟨lw_p7, List.forall_mem_cons.mpr ⟨lw_p8, List.forall_mem_cons.mpr ⟨lw_p9, List.forall_mem_cons.mpr ⟨lw_p10, List.forall_mem_cons.mpr ⟨lw_p11, List.forall_mem_cons.mpr ⟨lw_p12, List.forall_mem_cons.mpr ⟨lw_p13, List.forall_mem_cons.mpr ⟨lw_p14, List.forall_mem_cons.mpr ⟨lw_p15, fun _ h => absurd h List.not_mem_nil⟩⟩⟩⟩⟩⟩⟩⟩⟩⟩⟩⟩⟩⟩⟩⟩
theorem lw_p16 : lw_okq (⟨"SlateRoofModel", "firstGap", "(I)I"⟩, 14) := ⟨⟨by decide +kernel, by decide +kernel⟩, List.mem_of_getElem? (i := 723) (by decide +kernel), List.mem_of_getElem? (i := 862) (by decide +kernel), List.mem_of_getElem? (i := 863) (by decide +kernel)⟩
theorem lw_p17 : lw_okq (⟨"SlateRoofModel", "begins", "(I)V"⟩, 14) := ⟨⟨by decide +kernel, by decide +kernel⟩, List.mem_of_getElem? (i := 723) (by decide +kernel), List.mem_of_getElem? (i := 866) (by decide +kernel), List.mem_of_getElem? (i := 867) (by decide +kernel)⟩
theorem lw_p18 : lw_okq (⟨"SlateRoofModel", "lays", "(III)V"⟩, 14) := ⟨⟨by decide +kernel, by decide +kernel⟩, List.mem_of_getElem? (i := 723) (by decide +kernel), List.mem_of_getElem? (i := 874) (by decide +kernel), List.mem_of_getElem? (i := 875) (by decide +kernel)⟩
theorem lw_p19 : lw_okq (⟨"SlateRoofModel", "isPlace", "(II)Z"⟩, 14) := ⟨⟨by decide +kernel, by decide +kernel⟩, List.mem_of_getElem? (i := 723) (by decide +kernel), List.mem_of_getElem? (i := 882) (by decide +kernel), List.mem_of_getElem? (i := 883) (by decide +kernel)⟩
theorem lw_p20 : lw_okq (⟨"SlateRoofModel", "mayMend", "(II)Z"⟩, 14) := ⟨⟨by decide +kernel, by decide +kernel⟩, List.mem_of_getElem? (i := 723) (by decide +kernel), List.mem_of_getElem? (i := 886) (by decide +kernel), List.mem_of_getElem? (i := 887) (by decide +kernel)⟩
theorem lw_p21 : lw_okq (⟨"SlateRoofModel", "goDay", "(I)I"⟩, 14) := ⟨⟨by decide +kernel, by decide +kernel⟩, List.mem_of_getElem? (i := 723) (by decide +kernel), List.mem_of_getElem? (i := 898) (by decide +kernel), List.mem_of_getElem? (i := 899) (by decide +kernel)⟩
theorem lw_p22 : lw_okq (⟨"SlateRoofModel", "isDone", "()Z"⟩, 14) := ⟨⟨by decide +kernel, by decide +kernel⟩, List.mem_of_getElem? (i := 723) (by decide +kernel), List.mem_of_getElem? (i := 902) (by decide +kernel), List.mem_of_getElem? (i := 903) (by decide +kernel)⟩
theorem lw_p23 : lw_okq (⟨"SlateRoofModel", "gaps", "()I"⟩, 14) := ⟨⟨by decide +kernel, by decide +kernel⟩, List.mem_of_getElem? (i := 723) (by decide +kernel), List.mem_of_getElem? (i := 906) (by decide +kernel), List.mem_of_getElem? (i := 907) (by decide +kernel)⟩
theorem lw_p24 : lw_okq (⟨"SlateRoofModel", "fall", "(II)I"⟩, 14) := ⟨⟨by decide +kernel, by decide +kernel⟩, List.mem_of_getElem? (i := 723) (by decide +kernel), List.mem_of_getElem? (i := 910) (by decide +kernel), List.mem_of_getElem? (i := 911) (by decide +kernel)⟩
theorem lw_p25 : lw_okq (⟨"SlateRoofModel", "read", "()I"⟩, 14) := ⟨⟨by decide +kernel, by decide +kernel⟩, List.mem_of_getElem? (i := 723) (by decide +kernel), List.mem_of_getElem? (i := 926) (by decide +kernel), List.mem_of_getElem? (i := 927) (by decide +kernel)⟩
theorem lw_p26 : lw_okq (⟨"SlateRoofModel", "comes", "(II)V"⟩, 14) := ⟨⟨by decide +kernel, by decide +kernel⟩, List.mem_of_getElem? (i := 723) (by decide +kernel), List.mem_of_getElem? (i := 930) (by decide +kernel), List.mem_of_getElem? (i := 931) (by decide +kernel)⟩
theorem lw_p27 : lw_okq (⟨"SlateRoofModel", "workDay", "(I)I"⟩, 14) := ⟨⟨by decide +kernel, by decide +kernel⟩, List.mem_of_getElem? (i := 723) (by decide +kernel), List.mem_of_getElem? (i := 938) (by decide +kernel), List.mem_of_getElem? (i := 939) (by decide +kernel)⟩
theorem lw_p28 : lw_okq (⟨"SlateRoofModel", "step", "()I"⟩, 14) := ⟨⟨by decide +kernel, by decide +kernel⟩, List.mem_of_getElem? (i := 723) (by decide +kernel), List.mem_of_getElem? (i := 942) (by decide +kernel), List.mem_of_getElem? (i := 943) (by decide +kernel)⟩
theorem lw_p29 : lw_okq (⟨"SlateRoofModel", "openCourse", "()I"⟩, 14) := ⟨⟨by decide +kernel, by decide +kernel⟩, List.mem_of_getElem? (i := 723) (by decide +kernel), List.mem_of_getElem? (i := 946) (by decide +kernel), List.mem_of_getElem? (i := 947) (by decide +kernel)⟩
theorem lw_p30 : lw_okq (⟨"SlateRoofModel", "nextLength", "()I"⟩, 14) := ⟨⟨by decide +kernel, by decide +kernel⟩, List.mem_of_getElem? (i := 723) (by decide +kernel), List.mem_of_getElem? (i := 950) (by decide +kernel), List.mem_of_getElem? (i := 951) (by decide +kernel)⟩
theorem lw_p31 : lw_okq (⟨"SlateRoofModel", "courseNow", "(II)I"⟩, 14) := ⟨⟨by decide +kernel, by decide +kernel⟩, List.mem_of_getElem? (i := 723) (by decide +kernel), List.mem_of_getElem? (i := 962) (by decide +kernel), List.mem_of_getElem? (i := 963) (by decide +kernel)⟩
def lw_privs_2 : List (MethodName × Nat) := [(⟨"SlateRoofModel", "firstGap", "(I)I"⟩, 14), (⟨"SlateRoofModel", "begins", "(I)V"⟩, 14), (⟨"SlateRoofModel", "lays", "(III)V"⟩, 14), (⟨"SlateRoofModel", "isPlace", "(II)Z"⟩, 14), (⟨"SlateRoofModel", "mayMend", "(II)Z"⟩, 14), (⟨"SlateRoofModel", "goDay", "(I)I"⟩, 14), (⟨"SlateRoofModel", "isDone", "()Z"⟩, 14), (⟨"SlateRoofModel", "gaps", "()I"⟩, 14), (⟨"SlateRoofModel", "fall", "(II)I"⟩, 14), (⟨"SlateRoofModel", "read", "()I"⟩, 14), (⟨"SlateRoofModel", "comes", "(II)V"⟩, 14), (⟨"SlateRoofModel", "workDay", "(I)I"⟩, 14), (⟨"SlateRoofModel", "step", "()I"⟩, 14), (⟨"SlateRoofModel", "openCourse", "()I"⟩, 14), (⟨"SlateRoofModel", "nextLength", "()I"⟩, 14), (⟨"SlateRoofModel", "courseNow", "(II)I"⟩, 14)]
theorem lw_r2 : ∀ q ∈ lw_privs_2, lw_okq q := List.forall_mem_cons.mpr ⟨lw_p16, List.forall_mem_cons.mpr ⟨lw_p17, List.forall_mem_cons.mpr ⟨lw_p18, List.forall_mem_cons.mpr ⟨lw_p19, List.forall_mem_cons.mpr ⟨lw_p20, List.forall_mem_cons.mpr ⟨lw_p21, List.forall_mem_cons.mpr ⟨lw_p22, List.forall_mem_cons.mpr ⟨lw_p23, List.forall_mem_cons.mpr ⟨lw_p24, List.forall_mem_cons.mpr ⟨lw_p25, List.forall_mem_cons.mpr ⟨lw_p26, List.forall_mem_cons.mpr ⟨lw_p27, List.forall_mem_cons.mpr ⟨lw_p28, List.forall_mem_cons.mpr ⟨lw_p29, List.forall_mem_cons.mpr ⟨lw_p30, List.forall_mem_cons.mpr ⟨lw_p31, fun _ h => absurd h List.not_mem_nil⟩⟩⟩⟩⟩⟩⟩⟩⟩⟩⟩⟩⟩⟩⟩⟩
theorem lw_p32 : lw_okq (⟨"SlateRoofModel", "lastGap", "(I)I"⟩, 14) := ⟨⟨by decide +kernel, by decide +kernel⟩, List.mem_of_getElem? (i := 723) (by decide +kernel), List.mem_of_getElem? (i := 966) (by decide +kernel), List.mem_of_getElem? (i := 967) (by decide +kernel)⟩
theorem lw_p33 : lw_okq (⟨"SlateRoofModel", "slatesNow", "(II)I"⟩, 14) := ⟨⟨by decide +kernel, by decide +kernel⟩, List.mem_of_getElem? (i := 723) (by decide +kernel), List.mem_of_getElem? (i := 978) (by decide +kernel), List.mem_of_getElem? (i := 979) (by decide +kernel)⟩
theorem lw_p34 : lw_okq (⟨"SlateRoofModel", "roofBy", "(I)I"⟩, 14) := ⟨⟨by decide +kernel, by decide +kernel⟩, List.mem_of_getElem? (i := 723) (by decide +kernel), List.mem_of_getElem? (i := 982) (by decide +kernel), List.mem_of_getElem? (i := 983) (by decide +kernel)⟩
theorem lw_p35 : lw_okq (⟨"SlateRoofModel", "counted", "(I)I"⟩, 14) := ⟨⟨by decide +kernel, by decide +kernel⟩, List.mem_of_getElem? (i := 723) (by decide +kernel), List.mem_of_getElem? (i := 990) (by decide +kernel), List.mem_of_getElem? (i := 991) (by decide +kernel)⟩
theorem lw_p36 : lw_okq (⟨"SlateRoofModel", "toTopNow", "(II)I"⟩, 14) := ⟨⟨by decide +kernel, by decide +kernel⟩, List.mem_of_getElem? (i := 723) (by decide +kernel), List.mem_of_getElem? (i := 1002) (by decide +kernel), List.mem_of_getElem? (i := 1003) (by decide +kernel)⟩
theorem lw_p37 : lw_okq (⟨"SlateRoofModel", "reachNow", "(I)I"⟩, 14) := ⟨⟨by decide +kernel, by decide +kernel⟩, List.mem_of_getElem? (i := 723) (by decide +kernel), List.mem_of_getElem? (i := 1010) (by decide +kernel), List.mem_of_getElem? (i := 1011) (by decide +kernel)⟩
theorem lw_p38 : lw_okq (⟨"SlateRoofModel", "keep", "()V"⟩, 14) := ⟨⟨by decide +kernel, by decide +kernel⟩, List.mem_of_getElem? (i := 723) (by decide +kernel), List.mem_of_getElem? (i := 1014) (by decide +kernel), List.mem_of_getElem? (i := 1015) (by decide +kernel)⟩
theorem lw_p39 : lw_okq (⟨"SlateRoofModel", "bring", "()V"⟩, 14) := ⟨⟨by decide +kernel, by decide +kernel⟩, List.mem_of_getElem? (i := 723) (by decide +kernel), List.mem_of_getElem? (i := 1018) (by decide +kernel), List.mem_of_getElem? (i := 1019) (by decide +kernel)⟩
theorem lw_p40 : lw_okq (⟨"SlateRoofModel", "dryNow", "()I"⟩, 14) := ⟨⟨by decide +kernel, by decide +kernel⟩, List.mem_of_getElem? (i := 723) (by decide +kernel), List.mem_of_getElem? (i := 1026) (by decide +kernel), List.mem_of_getElem? (i := 1027) (by decide +kernel)⟩
theorem lw_p41 : lw_okq (⟨"SlateRoofModel", "bestNow", "()I"⟩, 14) := ⟨⟨by decide +kernel, by decide +kernel⟩, List.mem_of_getElem? (i := 723) (by decide +kernel), List.mem_of_getElem? (i := 1034) (by decide +kernel), List.mem_of_getElem? (i := 1035) (by decide +kernel)⟩
theorem lw_p42 : lw_okq (⟨"SlateRoofModel", "meanNow", "()D"⟩, 14) := ⟨⟨by decide +kernel, by decide +kernel⟩, List.mem_of_getElem? (i := 723) (by decide +kernel), List.mem_of_getElem? (i := 1042) (by decide +kernel), List.mem_of_getElem? (i := 1043) (by decide +kernel)⟩
theorem lw_p43 : lw_okq (⟨"SlateRoofModel", "mix", "(J)V"⟩, 14) := ⟨⟨by decide +kernel, by decide +kernel⟩, List.mem_of_getElem? (i := 723) (by decide +kernel), List.mem_of_getElem? (i := 1051) (by decide +kernel), List.mem_of_getElem? (i := 1052) (by decide +kernel)⟩
def lw_privs_3 : List (MethodName × Nat) := [(⟨"SlateRoofModel", "lastGap", "(I)I"⟩, 14), (⟨"SlateRoofModel", "slatesNow", "(II)I"⟩, 14), (⟨"SlateRoofModel", "roofBy", "(I)I"⟩, 14), (⟨"SlateRoofModel", "counted", "(I)I"⟩, 14), (⟨"SlateRoofModel", "toTopNow", "(II)I"⟩, 14), (⟨"SlateRoofModel", "reachNow", "(I)I"⟩, 14), (⟨"SlateRoofModel", "keep", "()V"⟩, 14), (⟨"SlateRoofModel", "bring", "()V"⟩, 14), (⟨"SlateRoofModel", "dryNow", "()I"⟩, 14), (⟨"SlateRoofModel", "bestNow", "()I"⟩, 14), (⟨"SlateRoofModel", "meanNow", "()D"⟩, 14), (⟨"SlateRoofModel", "mix", "(J)V"⟩, 14)]
theorem lw_r3 : ∀ q ∈ lw_privs_3, lw_okq q := List.forall_mem_cons.mpr ⟨lw_p32, List.forall_mem_cons.mpr ⟨lw_p33, List.forall_mem_cons.mpr ⟨lw_p34, List.forall_mem_cons.mpr ⟨lw_p35, List.forall_mem_cons.mpr ⟨lw_p36, List.forall_mem_cons.mpr ⟨lw_p37, List.forall_mem_cons.mpr ⟨lw_p38, List.forall_mem_cons.mpr ⟨lw_p39, List.forall_mem_cons.mpr ⟨lw_p40, List.forall_mem_cons.mpr ⟨lw_p41, List.forall_mem_cons.mpr ⟨lw_p42, List.forall_mem_cons.mpr ⟨lw_p43, fun _ h => absurd h List.not_mem_nil⟩⟩⟩⟩⟩⟩⟩⟩⟩⟩⟩⟩
def lw_privs : List (MethodName × Nat) := lw_privs_1 ++ (lw_privs_2 ++ (lw_privs_3))
def lw_tbl : List Cond := k2_sels lw_privs ++ tables_1
theorem lw_privs_ok : ∀ q ∈ lw_privs, lw_okq q := by
  show ∀ q ∈ lw_privs_1 ++ (lw_privs_2 ++ (lw_privs_3)), lw_okq q
  exact List.forall_mem_append.mpr ⟨lw_r1, List.forall_mem_append.mpr ⟨lw_r2, lw_r3⟩⟩
/-- the streams that the claim lets the run draw from -/
abbrev lw_cs : List Choice := [Jvm.Choice.named "NaN.bits"]
theorem lw_bits : nanBits ∈ lw_cs := by first | decide | exact List.mem_cons_self | simp [lw_cs, nanBits]
end
section
/-! ===== BEGIN words of one list among another's, by their places ===== -/
theorem goodIn_r {big : List Cond} (ws : List Cond) (ps : List Nat) (hp : ws = ps.filterMap (fun i => big[i]?)) (h : ws.all goodWord = true) : GoodIn big ws := by
  intro w hw
  have h1 := List.all_eq_true.mp h w hw
  rw [hp] at hw
  obtain ⟨i, -, hi⟩ := List.mem_filterMap.mp hw
  have hm : w ∈ big := by first | exact List.mem_of_getElem? hi | exact List.getElem?_mem hi
  exact ⟨hm, good_of_word h1⟩
theorem goodIn_app {big a b : List Cond} (ha : GoodIn big a) (hb : GoodIn big b) : GoodIn big (a ++ b) := fun w h => (List.mem_append.mp h).elim (ha w) (hb w)
theorem goodIn_ca {big a b : List Cond} {c : Cond} (ha : GoodIn big (c :: a)) (hb : GoodIn big b) : GoodIn big (c :: (a ++ b)) := fun w h => (List.mem_cons.mp h).elim (fun e => ha w (List.mem_cons.mpr (Or.inl e))) (fun h => (List.mem_append.mp h).elim (fun h => ha w (List.mem_cons.mpr (Or.inr h))) (hb w))
theorem goodIn_sub {big ws : List Cond} (hm : ∀ w ∈ ws, w ∈ big) (h : ws.all goodWord = true) : GoodIn big ws := fun w hw => ⟨hm w hw, good_of_word (List.all_eq_true.mp h w hw)⟩
/-! ===== END ===== -/

/-! ===== BEGIN exceptions that leave a method, and their catching by the caller (launches without stack traces) ===== -/
section VXA
/-! The laws vx_back, vx_callV, vx_callS, vx_callSW, vx_throw0, vx_throwS follow proofs of the library, with one case more: JvmDerived/Free/Laws.lean (Back.of_free), Shelf42/LK1.lean (callV, callS), Shelf/KitTraced.lean (throwNew0V, throwNewS). -/
/-- where a method has thrown q: the class by its name, the cell, what was written, the world -/
def vx_T (XC : String → State → State → Prop) (st : State) (q : Addr) (t : State) (mc ms : Nat) (free : Addr → Prop) : Prop :=
  ∃ (E : String) (ce : Cell) (L : List Loc), XC E st t ∧ t.heap[q]? = some ce ∧ ce.vm = .none ∧ st.vm.findClass E = some ce.cls ∧ st.WarmedH t.vm ∧ st.sameButNew ({ t with vm := st.vm } : State) L mc ms ∧ ∀ z ∈ L, free z.base
def vx_Q (Qc : Array Value → State → Outcome → State → Prop) (XC : String → State → State → Prop) (mc ms : Nat) (free : Addr → Prop) : Array Value → State → Outcome → State → Prop := fun a st o t =>
  (Qc a st o t ∧ ∃ L, FrameEnd st o t L mc ms ∧ ∀ q ∈ L, free q.base) ∨ ∃ q, o = .threw q ∧ vx_T XC st q t mc ms free
/-- a callee that returns or throws -/
def vx_Met (l : Launch) (y : MethodName) (ws : List Cond) (rm : Room) (Pc : Array Value → State → Prop) (Qc : Array Value → State → Outcome → State → Prop) (XC : String → State → State → Prop) (mc ms : Nat) (free : Addr → Prop) : Prop :=
  MetFree l y (headSpec ws rm) Pc (fun _ _ _ _ _ => True) (vx_Q Qc XC mc ms free)
def vx_Post (XC : String → State → State → Prop) (mc ms : Nat) (free : Addr → Prop) : Pt → Array Value → Addr → Pt → Prop := fun A a q B =>
  ∃ (g : JFrame) (mk : MethodId) (t : State) (L : List Loc) (E : String) (ce : Cell), B.U.heap = t.heap ∧ B.U.vm = t.vm ∧ XC E (A.U.calling g mk a) t ∧ t.heap[q]? = some ce ∧ ce.vm = .none ∧ A.U.vm.findClass E = some ce.cls ∧ B.locs = A.locs ++ L ∧ (∀ z ∈ L, free z.base) ∧ B.cells = A.cells + mc ∧ B.slots = A.slots + ms
def vx_Back (l : Launch) (R : Room) (p : Program) (e : Env) (below : List Frame) (s : State) (sargs : Array Value) (y : MethodName) (len W9 : Nat)
    (Pre : Pt → Array Value → Prop) (Post : Pt → Array Value → Option Value → Pt → Prop) (PostX : Pt → Array Value → Addr → Pt → Prop) : Prop :=
  ∀ (m : MethodId) (meth : Method) (c : Code) (A : Pt) (g : JFrame) (ig : Instr) (mk : MethodId) (a : Array Value),
    Stand p l e R s m sargs below meth c A.U A.locs A.cells A.slots → g.method = m → g.locals.size = c.maxLocals → decode c.code g.pc = .ok (ig, len) →
    2 * g.monitorRoom + (g.stack.map fun v => v.category).sum ≤ W9 → A.U.methodNamed? y = some mk → Pre A a →
    (∃ (v : Option Value) (B : Pt), Stand p l e R s m sargs below meth c B.U B.locs B.cells B.slots ∧ Post A a v B ∧
      Steps p.tables e below (doInvoke e (A.U.setTop g) [] mk a).1 (B.U.setTop { g with pc := g.pc + len, stack := v.toList ++ g.stack })) ∨
    (∃ (q : Addr) (B : Pt), Stand p l e R s m sargs below meth c B.U B.locs B.cells B.slots ∧ PostX A a q B ∧
      Steps p.tables e below (doInvoke e (A.U.setTop g) [] mk a).1 ((B.U.setTop g).pushFrame (.throwing q)))
section Payer
variable {l : Launch} {R : Room} {p : Program} {e : Env} {below : List Frame} {s : State} {sargs : Array Value} {y : MethodName} {len W9 : Nat}
theorem vx_back {ws : List Cond} {rm : Room} {Pc : Array Value → State → Prop} {Qc : Array Value → State → Outcome → State → Prop} {XC : String → State → State → Prop} {mc ms : Nat} {free : Addr → Prop} {bytes : ByteArray} {maxL : Nat} {ret : Option FieldType}
    (hM : vx_Met l y ws rm Pc Qc XC mc ms free) (hblind : FrameBlind Pc) (hrc : rm.cells = mc) (hrs : rm.slots = ms)
    (hframes : rm.frames + 1 ≤ R.frames) (hlocals : W9 + (maxL + 11) + rm.locals ≤ R.locals)
    (hws : ∀ w ∈ ws, ∀ a' U, s.WarmedH U.vm → w.before a' U = true) (hcode : Cond.code y bytes maxL ret ∈ ws) (hinit : ∀ a' U, s.WarmedH U.vm → (Cond.initialized y.cls).before a' U = true) :
    vx_Back l R p e below s sargs y len W9 (PreOf R mc ms Pc) (PostOf Qc mc ms free) (vx_Post XC mc ms free) := by
  intro m meth c A g ig mk a X hg hsize hdg hW hn hp
  have h1 : (headSpec ws rm).pre.before a A.U = true := atoms_intro fun w hw => hws w hw _ _ X.warmed
  have h2 : (Cond.code y bytes maxL ret).before a A.U = true := hws _ hcode _ _ X.warmed
  have h3 : (Cond.initialized y.cls).before a A.U = true := hinit _ _ X.warmed
  have h4 : A.cells + (headSpec ws rm).room.cells ≤ R.cells := by rw [show (headSpec ws rm).room.cells = mc from hrc]; exact hp.1
  have h5 : A.slots + (headSpec ws rm).room.slots ≤ R.slots := by rw [show (headSpec ws rm).room.slots = ms from hrs]; exact hp.2.1
  have hPc : Pc a (A.U.calling g mk a) := hblind _ _ _ _ hp.2.2
  obtain ⟨U, Ls, c0, s0⟩ := A
  dsimp only [Pt.U, Pt.locs, Pt.cells, Pt.slots] at h1 h2 h3 h4 h5 X hn hPc ⊢
  obtain ⟨methY, cY, hmY, hcY, -, hlY, -, -, -, -⟩ := Cond.code_spec hn h2
  obtain ⟨kY, hkY, -⟩ := className_of_methodNamed hn
  have hinitY : kY.init = .initialized := Cond.initialized_spec (findClass_of_methodNamed hn) hkY h3
  have h : At U g.method c below := by rw [hg]; exact X.here
  have hlocals9 : W9 + (maxL + 11) + (headSpec ws rm).room.locals ≤ R.locals := hlocals
  have happ : (headSpec ws rm).appliesLoose y e.platform (U.calling g mk a) = true :=
    Spec.appliesLoose_calling (g := g) h hdg hn hkY hinitY
      (X.room_calling (g := g) (R' := (headSpec ws rm).room) hsize hmY hcY hframes (by rw [hlY]; omega) h4 h5) h1
  obtain ⟨mid, hmid⟩ := h.above
  have hfr : (U.setTop g).frames = (.java g :: mid) ++ below := by rw [State.frames_setTop' g h.top, hmid]; rfl
  obtain ⟨o, s₂, hsteps, -, hend, hq⟩ := Steps.callFree hM p X.admits X.cas X.clock (acts := []) hfr happ hPc trivial
  have hq' : vx_Q Qc XC mc ms free a (U.calling g mk a) o s₂ := hq
  rw [State.frames_setTop' g h.top] at hend
  obtain ⟨g₀, hg0⟩ := Option.isSome_iff_exists.mp h.top
  obtain ⟨r, hr⟩ := State.topJava?_eq_some.mp hg0
  have hr' : (({ U with heap := s₂.heap, slotsUsed := s₂.slotsUsed } : State).setVm s₂.vm).frames = .java g₀ :: r := hr
  rcases hq' with ⟨hqc, L, hfe, hL⟩ | ⟨q, rfl, E, ce, L, hx, hce, hcv, hcl, hW₂, hsm, hL⟩
  · obtain ⟨⟨v, rfl⟩, hW₂, e2, q2, q3, q4, q5, q6⟩ := id hfe
    have e3 : s₂ = ({ (U.calling g mk a).setFrames s₂.frames with heap := s₂.heap, slotsUsed := s₂.slotsUsed } : State).setVm s₂.vm := by
      have : s₂ = ({ s₂ with vm := (U.calling g mk a).vm } : State).setVm s₂.vm := rfl
      rw [e2] at this
      exact this
    obtain ⟨c₂, i₂, len₂, hc₂, hd₂, hf₂⟩ := hend
    have hW' : U.WarmedH s₂.vm := hW₂
    have hcc : c₂ = c := by
      have h1 : s₂.code? g.method = U.code? g.method := by
        rw [State.code?_eq, State.code?_eq, hW'.alike.method?]
      exact Option.some.inj (hc₂.symm.trans (h1.trans h.code))
    subst hcc
    have hlen : len₂ = len := by rw [hdg] at hd₂; cases hd₂; rfl
    subst hlen
    have hs₂ : s₂ = (({ U with heap := s₂.heap, slotsUsed := s₂.slotsUsed } : State).setVm s₂.vm).setTop { g with pc := g.pc + len₂, stack := v.toList ++ g.stack } := by
      refine e3.trans ?_
      rw [hf₂, State.calling_eq h.top, State.setFrames_setFrames, State.setTop_of_frames _ hr', hr]
      rfl
    have hsame : U.sameButNew ({ U with heap := s₂.heap, slotsUsed := s₂.slotsUsed } : State) L mc ms := by
      refine ⟨?_, q2, q3, q4, q5, q6⟩
      obtain ⟨t, ht, -⟩ := State.frames_cons hr
      show ({ U with heap := s₂.heap, slotsUsed := s₂.slotsUsed } : State) = { U.setFrames U.frames with heap := s₂.heap, slotsUsed := s₂.slotsUsed }
      rw [State.setFrames_self ht]
    subst hg
    refine Or.inl ⟨v, ⟨(({ U with heap := s₂.heap, slotsUsed := s₂.slotsUsed } : State).setVm s₂.vm), Ls ++ L, c0 + mc, s0 + ms⟩,
      ⟨X.admits, X.cas, X.clock, X.frames, X.room, X.hears, X.method, X.code, (X.here.setHeapUsed s₂.heap s₂.slotsUsed).setVm hW'.alike, X.tail, State.WarmedH.trans X.warmed hW', X.limits, X.bytes, X.same.trans (hsame.setVm s.vm)⟩,
      ⟨g, mk, s₂, L, rfl, rfl, hqc, rfl, hL, rfl, rfl⟩, ?_⟩
    show Steps p.tables e below _ ((({ U with heap := s₂.heap, slotsUsed := s₂.slotsUsed } : State).setVm s₂.vm).setTop { g with pc := g.pc + len₂, stack := v.toList ++ g.stack })
    rw [← hs₂]
    exact hsteps
  · obtain ⟨e2, q2, q3, q4, q5, q6⟩ := id hsm
    have e3 : s₂ = ({ (U.calling g mk a).setFrames s₂.frames with heap := s₂.heap, slotsUsed := s₂.slotsUsed } : State).setVm s₂.vm := by
      have : s₂ = ({ s₂ with vm := (U.calling g mk a).vm } : State).setVm s₂.vm := rfl
      rw [e2] at this
      exact this
    have hf₂ : s₂.frames = .throwing q :: .java g :: U.frames.tail := hend
    have hW' : U.WarmedH s₂.vm := hW₂
    have hs₂ : s₂ = ((({ U with heap := s₂.heap, slotsUsed := s₂.slotsUsed } : State).setVm s₂.vm).setTop g).pushFrame (.throwing q) := by
      refine e3.trans ?_
      rw [hf₂, State.calling_eq h.top, State.setFrames_setFrames, State.pushFrame, State.frames_setTop _ hr', State.setTop_of_frames _ hr', State.setFrames_setFrames, hr]
      rfl
    have hsame : U.sameButNew ({ U with heap := s₂.heap, slotsUsed := s₂.slotsUsed } : State) L mc ms := by
      refine ⟨?_, q2, q3, q4, q5, q6⟩
      obtain ⟨t, ht, -⟩ := State.frames_cons hr
      show ({ U with heap := s₂.heap, slotsUsed := s₂.slotsUsed } : State) = { U.setFrames U.frames with heap := s₂.heap, slotsUsed := s₂.slotsUsed }
      rw [State.setFrames_self ht]
    subst hg
    refine Or.inr ⟨q, ⟨(({ U with heap := s₂.heap, slotsUsed := s₂.slotsUsed } : State).setVm s₂.vm), Ls ++ L, c0 + mc, s0 + ms⟩,
      ⟨X.admits, X.cas, X.clock, X.frames, X.room, X.hears, X.method, X.code, (X.here.setHeapUsed s₂.heap s₂.slotsUsed).setVm hW'.alike, X.tail, State.WarmedH.trans X.warmed hW', X.limits, X.bytes, X.same.trans (hsame.setVm s.vm)⟩,
      ⟨g, mk, s₂, L, E, ce, rfl, rfl, hx, hce, hcv, hcl, rfl, hL, rfl, rfl⟩, ?_⟩
    show Steps p.tables e below _ (((({ U with heap := s₂.heap, slotsUsed := s₂.slotsUsed } : State).setVm s₂.vm).setTop g).pushFrame (.throwing q))
    rw [← hs₂]
    exact hsteps
end Payer
section Calls
variable {p : Program} {l : Launch} {e : Env} {R : Room} {s : State} {m : MethodId} {args : Array Value} {below : List Frame} {meth : Method} {c : Code} {T : State} {locs : List Loc} {cells slots : Nat}
theorem vx_callV (X : Stand p l e R s m args below meth c T locs cells slots) (hexec : p.tables.exec = Jvm.exec) {own C : String} {index : Nat} {y : MethodName} {bytes : ByteArray} {maxL : Nat} {ret : Option FieldType}
    (hown : s.vm.findClass own = some m.cls) (hlink : (Cond.methodLink own index y).before args s = true) (hinst : (Cond.instanceMethod y).before args s = true) (hsel : (Cond.selects C y y).before args s = true)
    (hcode : (Cond.code y bytes maxL ret).before args s = true) (hy : y.cls ≠ "java/lang/invoke/MethodHandle" ∧ y.cls ≠ "java/lang/invoke/VarHandle")
    {W9 : Nat} {Pre : Pt → Array Value → Prop} {Post : Pt → Array Value → Option Value → Pt → Prop} {PostX : Pt → Array Value → Addr → Pt → Prop} (hK : vx_Back l R p e below s args y 3 W9 Pre Post PostX)
    {b : Addr} {cellB : Cell} (hcell : T.heap[b]? = some cellB) (hobj : cellB.vm.isStatics = false) (hcls : s.vm.findClass C = some cellB.cls)
    {g : JFrame} (hg : g.method = m) (hsize : g.locals.size = c.maxLocals) {argsL rest : List Value} (hlen : ∀ sig, parseMethodDescriptor y.desc = some sig → argsL.length = sig.parameters.length)
    (hstack : g.stack = argsL.reverse ++ .ref b :: rest) (hW : 2 * g.monitorRoom + (rest.map fun v => v.category).sum ≤ W9) (hdg : decode c.code g.pc = .ok (.invokevirtual index, 3))
    (hpre : ∀ vm₁, s.WarmedH vm₁ → Pre ⟨T.setVm vm₁, locs, cells, slots⟩ (Value.ref b :: argsL).toArray) :
    (∃ (v : Option Value) (vm₁ : Vm) (B : Pt), s.WarmedH vm₁ ∧ Stand p l e R s m args below meth c B.U B.locs B.cells B.slots ∧ Post ⟨T.setVm vm₁, locs, cells, slots⟩ (Value.ref b :: argsL).toArray v B ∧
      ∀ target, Steps p.tables e below (B.U.setTop { g with pc := g.pc + 3, stack := v.toList ++ rest }) target → Steps p.tables e below (T.setTop g) target) ∨
    (∃ (q : Addr) (vm₁ : Vm) (B : Pt), s.WarmedH vm₁ ∧ Stand p l e R s m args below meth c B.U B.locs B.cells B.slots ∧ PostX ⟨T.setVm vm₁, locs, cells, slots⟩ (Value.ref b :: argsL).toArray q B ∧
      Steps p.tables e below (T.setTop g) ((B.U.setTop { g with stack := rest }).pushFrame (.throwing q))) := by
  obtain ⟨mk, methM, hnamed, hmethM, hstM, habM⟩ := Cond.instanceMethod_spec hinst
  obtain ⟨methM', cM, hmethM', -, -, -, -, -, -, hsigM⟩ := Cond.code_spec hnamed hcode
  cases hmethM.symm.trans hmethM'
  obtain ⟨c2, r2, m2, q1, q2, q3, q4, kP, hkP, hkPi⟩ := Cond.selects_spec hsel
  cases hcls.symm.trans q1
  cases (State.methodFound?_of_named hnamed hy).symm.trans q2
  cases hnamed.symm.trans q3
  have hselP : selectMethod e.platform s.vm cellB.cls mk = .method mk := by rw [Launch.admits_selectMethod X.admits]; exact q4
  obtain ⟨vm₁, X₁, hstep₁⟩ := X.invokevirtual hexec hown hlink hnamed hmethM hstM hkP hkPi hy (a := b) (cell := cellB) hcell
    (fun z h => by rw [h] at hobj; cases hobj) hselP hmethM habM hkP hkPi (g := g) hg (argsL := argsL) (rest := rest) (hlen _ hsigM) hstack hdg
  rcases hK m meth c ⟨T.setVm vm₁, locs, cells, slots⟩ { g with stack := rest } (.invokevirtual index) mk (Value.ref b :: argsL).toArray X₁ hg hsize hdg hW (X₁.named hnamed) (hpre vm₁ X₁.warmed) with ⟨v, B, X', hpost, hsteps⟩ | ⟨q, B, X', hpost, hsteps⟩
  · exact Or.inl ⟨v, vm₁, B, X₁.warmed, X', hpost, fun target h => hstep₁ _ fun acts => by rw [doInvoke_state]; exact hsteps.trans h⟩
  · exact Or.inr ⟨q, vm₁, B, X₁.warmed, X', hpost, hstep₁ _ fun acts => by rw [doInvoke_state]; exact hsteps⟩
theorem vx_callS (X : Stand p l e R s m args below meth c T locs cells slots) (hexec : p.tables.exec = Jvm.exec) {own : String} {index : Nat} {y : MethodName} {bytes : ByteArray} {maxL : Nat} {ret : Option FieldType}
    (hown : s.vm.findClass own = some m.cls) (hlink : (Cond.methodLink own index y).before args s = true) (hstat : (Cond.static y).before args s = true) (hinit : (Cond.initialized y.cls).before args s = true)
    (hcode : (Cond.code y bytes maxL ret).before args s = true) (hy : y.cls ≠ "java/lang/invoke/MethodHandle" ∧ y.cls ≠ "java/lang/invoke/VarHandle")
    {W9 : Nat} {Pre : Pt → Array Value → Prop} {Post : Pt → Array Value → Option Value → Pt → Prop} {PostX : Pt → Array Value → Addr → Pt → Prop} (hK : vx_Back l R p e below s args y 3 W9 Pre Post PostX)
    {g : JFrame} (hg : g.method = m) (hsize : g.locals.size = c.maxLocals) {argsL rest : List Value} (hlen : ∀ sig, parseMethodDescriptor y.desc = some sig → argsL.length = sig.parameters.length)
    (hstack : g.stack = argsL.reverse ++ rest) (hW : 2 * g.monitorRoom + (rest.map fun v => v.category).sum ≤ W9) (hdg : decode c.code g.pc = .ok (.invokestatic index, 3))
    (hpre : ∀ vm₁, s.WarmedH vm₁ → Pre ⟨T.setVm vm₁, locs, cells, slots⟩ argsL.toArray) :
    (∃ (v : Option Value) (vm₁ : Vm) (B : Pt), s.WarmedH vm₁ ∧ Stand p l e R s m args below meth c B.U B.locs B.cells B.slots ∧ Post ⟨T.setVm vm₁, locs, cells, slots⟩ argsL.toArray v B ∧
      ∀ target, Steps p.tables e below (B.U.setTop { g with pc := g.pc + 3, stack := v.toList ++ rest }) target → Steps p.tables e below (T.setTop g) target) ∨
    (∃ (q : Addr) (vm₁ : Vm) (B : Pt), s.WarmedH vm₁ ∧ Stand p l e R s m args below meth c B.U B.locs B.cells B.slots ∧ PostX ⟨T.setVm vm₁, locs, cells, slots⟩ argsL.toArray q B ∧
      Steps p.tables e below (T.setTop g) ((B.U.setTop { g with stack := rest }).pushFrame (.throwing q))) := by
  obtain ⟨mk, hnamed⟩ := Cond.code_named hcode
  obtain ⟨methM, cM, hmethM, -, -, -, -, -, -, hsigM⟩ := Cond.code_spec hnamed hcode
  have hstatic : methM.isStatic = true := Cond.static_spec hnamed hmethM hstat
  obtain ⟨kP, hkP, -⟩ := className_of_methodNamed hnamed
  have hinitP : kP.init = .initialized := Cond.initialized_spec (findClass_of_methodNamed hnamed) hkP hinit
  obtain ⟨vm₁, X₁, hstep₁⟩ := X.invokestatic hexec hown hlink hnamed hmethM hstatic hkP hinitP hy (g := g) hg (argsL := argsL) (rest := rest) (hlen _ hsigM) hstack hdg
  rcases hK m meth c ⟨T.setVm vm₁, locs, cells, slots⟩ { g with stack := rest } (.invokestatic index) mk argsL.toArray X₁ hg hsize hdg hW (X₁.named hnamed) (hpre vm₁ X₁.warmed) with ⟨v, B, X', hpost, hsteps⟩ | ⟨q, B, X', hpost, hsteps⟩
  · exact Or.inl ⟨v, vm₁, B, X₁.warmed, X', hpost, fun target h => hstep₁ _ fun acts => by rw [doInvoke_state]; exact hsteps.trans h⟩
  · exact Or.inr ⟨q, vm₁, B, X₁.warmed, X', hpost, hstep₁ _ fun acts => by rw [doInvoke_state]; exact hsteps⟩
end Calls
theorem vx_cls {s : State} {T : State} {vm₁ : Vm} {E : String} {k : ClassId} (hW : s.WarmedH vm₁) (h : (T.setVm vm₁).vm.findClass E = some k) : s.vm.findClass E = some k := by
  have h1 : vm₁.findClass E = some k := h
  rw [hW.alike.findClass] at h1
  exact h1
/-- the method's frame g, with q thrown over it -/
def vx_W (p : Program) (l : Launch) (e : Env) (R : Room) (s : State) (m : MethodId) (args : Array Value) (below : List Frame) (meth : Method) (c : Code) (H : Heap) (locs : List Loc) (cells slots : Nat) (Q : State → Prop) (g : JFrame) (q : Addr) : Prop :=
  ∀ T : State, T.heap = H → Stand p l e R s m args below meth c T locs cells slots → ∃ t, Steps p.tables e below ((T.setTop g).pushFrame (.throwing q)) t ∧ Q t
def vx_Run (p : Program) (l : Launch) (e : Env) (R : Room) (s : State) (m : MethodId) (args : Array Value) (below : List Frame) (meth : Method) (c : Code) (H : Heap) (locs : List Loc) (cells slots mc ms : Nat) (g : JFrame) (rest : List Value) (Qa : State → Outcome → State → Prop) (XC : String → State → State → Prop) (free : Addr → Prop) : Prop :=
  ∀ T : State, T.heap = H → Stand p l e R s m args below meth c T locs cells slots →
    (∃ (v : Option Value) (st₀ t T' : State) (L : List Loc), st₀.heap = H ∧ Stand p l e R s m args below meth c T' (locs ++ L) (cells + mc) (slots + ms) ∧ (∀ q ∈ L, free q.base) ∧ T'.heap = t.heap ∧ T'.vm = t.vm ∧ Qa st₀ (.returned v) t ∧
      Goes p e below T g T' { g with pc := g.pc + 3, stack := v.toList ++ rest }) ∨
    (∃ (q : Addr) (st₀ t T' : State) (L : List Loc) (E : String) (ce : Cell), st₀.heap = H ∧ Stand p l e R s m args below meth c T' (locs ++ L) (cells + mc) (slots + ms) ∧ (∀ z ∈ L, free z.base) ∧ T'.heap = t.heap ∧ T'.vm = t.vm ∧ XC E st₀ t ∧ t.heap[q]? = some ce ∧ ce.vm = .none ∧ s.vm.findClass E = some ce.cls ∧
      Steps p.tables e below (T.setTop g) ((T'.setTop { g with stack := rest }).pushFrame (.throwing q)))
def vx_X {S : Type} (px : S → Prop) (B : String → S → State → Prop) (A : Nat → Prop) : String → State → State → Prop := fun E st t => ∃ u : S, px u ∧ B E u t ∧ va_F A st t
section Runs
variable {p : Program} {l : Launch} {e : Env} {R : Room} {s : State} {m : MethodId} {args : Array Value} {below : List Frame} {meth : Method} {c : Code} {H : Heap} {locs : List Loc} {cells slots : Nat}
variable {y : MethodName} {bytes cc : ByteArray} {maxL nL mc ms n index : Nat} {ret : Option FieldType} {ws : List Cond} {rm : Room} {Pc : Array Value → State → Prop} {Qc : Array Value → State → Outcome → State → Prop} {XC : String → State → State → Prop} {free : Addr → Prop} {Ts : List Cond} {own C : String} {b : Addr} {As rest : List Value} {g : JFrame}
theorem vx_callBack (cb : CallB R s args own index y bytes maxL ret ws rm mc ms n) (hM : vx_Met l y ws rm Pc Qc XC mc ms free) (hbl : FrameBlind Pc) : vx_Back l R p e below s args y 3 8 (PreOf R mc ms Pc) (PostOf Qc mc ms free) (vx_Post XC mc ms free) := by
  obtain ⟨hrc, hrs, hfr, hlo, hws, hcw, -, hini, -⟩ := cb
  exact vx_back (bytes := bytes) (maxL := maxL) (ret := ret) hM hbl hrc hrs hfr hlo hws hcw (fun a' U hW => word_at hW (Or.inl (by first | rfl | simp [Cond.onTables, Cond.keeps, Cond.steady])) hini)
theorem vx_runV (S : CallFix p m c cc nL s args Ts own) (hM : vx_Met l y ws rm Pc Qc XC mc ms free) (cw : CallW R s args own C index y bytes maxL ret ws rm mc ms n) (hp : PreV s H C b Pc As)
    (hg : g.method = m) (hn : As.length = n) (hsize : g.locals.size = nL) (hstack : g.stack = As.reverse ++ .ref b :: rest) (hW : 2 * g.monitorRoom + (rest.map fun v => v.category).sum ≤ 8) (hdg : decode cc g.pc = .ok (.invokevirtual index, 3)) (hf : cells + mc ≤ R.cells ∧ slots + ms ≤ R.slots) :
    vx_Run p l e R s m args below meth c H locs cells slots mc ms g rest (Qc (Value.ref b :: As).toArray) XC free := by
  have hK : vx_Back l R p e below s args y 3 8 (PreOf R mc ms Pc) (PostOf Qc mc ms free) (vx_Post XC mc ms free) := vx_callBack cw.1 hM hp.1
  obtain ⟨⟨-, -, -, -, -, -, hcode, -, hy, hlen, hl⟩, hin, hse⟩ := cw
  obtain ⟨hx, hb, hml, ho, -⟩ := S
  obtain ⟨-, ⟨cellB, hcB, hoB, hclB⟩, hPc⟩ := hp
  intro T hT X
  rcases vx_callV X hx (C := C) (bytes := bytes) (maxL := maxL) (ret := ret) ho hl hin hse hcode hy hK (by rw [hT]; exact hcB) hoB hclB hg (hsize.trans hml.symm) (argsL := As) (rest := rest) (fun sig h => hn.trans (hlen sig h)) hstack hW (by rw [hb]; exact hdg)
    (fun vm₁ hW₁ => ⟨hf.1, hf.2, hPc (T.setVm vm₁) hT hW₁⟩) with ⟨v, vm₁, ⟨U', l2, c2, s2⟩, hW₁, X', ⟨g', mk, t, L, e1, e2, hq, h1, hL, h2, h3⟩, st⟩ | ⟨q, vm₁, ⟨U', l2, c2, s2⟩, hW₁, X', ⟨g', mk, t, L, E, ce, e1, e2, hq, hce, hcv, hcl, h1, hL, h2, h3⟩, st⟩
  · dsimp only [Pt.U, Pt.locs, Pt.cells, Pt.slots] at X' e1 e2 h1 h2 h3 st
    subst h1; subst h2; subst h3
    exact Or.inl ⟨v, (T.setVm vm₁).calling g' mk (Value.ref b :: As).toArray, t, U', L, hT, X', hL, e1, e2, hq, st⟩
  · dsimp only [Pt.U, Pt.locs, Pt.cells, Pt.slots] at X' e1 e2 h1 h2 h3 st hcl
    subst h1; subst h2; subst h3
    exact Or.inr ⟨q, (T.setVm vm₁).calling g' mk (Value.ref b :: As).toArray, t, U', L, E, ce, hT, X', hL, e1, e2, hq, hce, hcv, vx_cls hW₁ hcl, st⟩
theorem vx_runS (S : CallFix p m c cc nL s args Ts own) (hM : vx_Met l y ws rm Pc Qc XC mc ms free) (cw : CallB R s args own index y bytes maxL ret ws rm mc ms n ∧ (Cond.static y).before args s = true) (hp : PreS s H Pc As)
    (hg : g.method = m) (hn : As.length = n) (hsize : g.locals.size = nL) (hstack : g.stack = As.reverse ++ rest) (hW : 2 * g.monitorRoom + (rest.map fun v => v.category).sum ≤ 8) (hdg : decode cc g.pc = .ok (.invokestatic index, 3)) (hf : cells + mc ≤ R.cells ∧ slots + ms ≤ R.slots) :
    vx_Run p l e R s m args below meth c H locs cells slots mc ms g rest (Qc As.toArray) XC free := by
  have hK : vx_Back l R p e below s args y 3 8 (PreOf R mc ms Pc) (PostOf Qc mc ms free) (vx_Post XC mc ms free) := vx_callBack cw.1 hM hp.1
  obtain ⟨⟨-, -, -, -, -, -, hcode, hini, hy, hlen, hl⟩, hstt⟩ := cw
  obtain ⟨hx, hb, hml, ho, -⟩ := S
  intro T hT X
  rcases vx_callS X hx (bytes := bytes) (maxL := maxL) (ret := ret) ho hl hstt hini hcode hy hK hg (hsize.trans hml.symm) (argsL := As) (rest := rest) (fun sig h => hn.trans (hlen sig h)) hstack hW (by rw [hb]; exact hdg)
    (fun vm₁ hW₁ => ⟨hf.1, hf.2, hp.2 (T.setVm vm₁) hT hW₁⟩) with ⟨v, vm₁, ⟨U', l2, c2, s2⟩, hW₁, X', ⟨g', mk, t, L, e1, e2, hq, h1, hL, h2, h3⟩, st⟩ | ⟨q, vm₁, ⟨U', l2, c2, s2⟩, hW₁, X', ⟨g', mk, t, L, E, ce, e1, e2, hq, hce, hcv, hcl, h1, hL, h2, h3⟩, st⟩
  · dsimp only [Pt.U, Pt.locs, Pt.cells, Pt.slots] at X' e1 e2 h1 h2 h3 st
    subst h1; subst h2; subst h3
    exact Or.inl ⟨v, (T.setVm vm₁).calling g' mk As.toArray, t, U', L, hT, X', hL, e1, e2, hq, st⟩
  · dsimp only [Pt.U, Pt.locs, Pt.cells, Pt.slots] at X' e1 e2 h1 h2 h3 st hcl
    subst h1; subst h2; subst h3
    exact Or.inr ⟨q, (T.setVm vm₁).calling g' mk As.toArray, t, U', L, E, ce, hT, X', hL, e1, e2, hq, hce, hcv, vx_cls hW₁ hcl, st⟩
end Runs
section Rows
variable {p : Program} {l : Launch} {e : Env} {R : Room} {s : State} {m : MethodId} {args : Array Value} {below : List Frame} {meth : Method} {c : Code} {H : Heap} {locs : List Loc} {cells slots : Nat} {Q : State → Prop}
variable {mc ms : Nat} {free : Addr → Prop} {A0 A1 : Nat → Prop} {H0 : Heap} {a : Array Value} {pc : Nat} {ls : Array Slot} {st0 rest : List Value}
theorem vx_keep {st₀ t T' : State} {L : List Loc} (h0 : st₀.heap = H) (e1 : T'.heap = t.heap) (hS : va_S A0 H0 H locs) (hA : ∀ q, q < H.size → A1 q → A0 q) (hf : ∀ q, free q → A0 q) (hL : ∀ q ∈ L, free q.base) (hF : va_F A1 st₀ t) :
    H.size ≤ T'.heap.size ∧ (∀ q : Nat, q < H.size → ¬ A1 q → T'.heap[q]? = H[q]?) ∧ va_S A0 H0 T'.heap (locs ++ L) := by
  obtain ⟨hz, hk⟩ := hF
  rw [h0] at hz hk
  exact ⟨by rw [e1]; exact hz, fun q h1 h2 => by rw [e1]; exact hk q h1 h2,
    ⟨Nat.le_trans hS.1 (by rw [e1]; exact hz), fun q h1 h2 => by rw [e1, hk q (Nat.lt_of_lt_of_le h1 hS.1) (fun z => h2 (hA q (Nat.lt_of_lt_of_le h1 hS.1) z))]; exact hS.2.1 q h1 h2, fun q hq => by
      rcases List.mem_append.mp hq with h | h
      · exact hS.2.2 q h
      · exact hf _ (hL q h)⟩⟩
theorem vx_calli {S SX : Type} {post : Int32 → S → Prop} {px : SX → Prop} {B : S → State → Prop} {BX : String → SX → State → Prop} {AX : Nat → Prop} (hr : vx_Run p l e R s m args below meth c H locs cells slots mc ms (F0 m pc ls st0) rest (va_Qi post B A1 a) (vx_X px BX AX) free) (hS : va_S A0 H0 H locs) (hA : ∀ q, q < H.size → A1 q → A0 q) (hf : ∀ q, free q → A0 q) (hAX : ∀ q, q < H.size → AX q → A0 q)
    (kx : ∀ (E : String) (ce : Cell) (q9 : Addr) (u : SX) (t : State) (H1 : Heap) (locs1 : List Loc), t.heap = H1 → s.vm.Alike t.vm → px u → BX E u t → H.size ≤ H1.size → (∀ q : Nat, q < H.size → ¬ AX q → H1[q]? = H[q]?) → va_S A0 H0 H1 locs1 → H1[q9]? = some ce → ce.vm = .none → s.vm.findClass E = some ce.cls → vx_W p l e R s m args below meth c H1 locs1 (cells + mc) (slots + ms) Q (F0 m pc ls rest) q9)
    (kk : ∀ (r : Int32) (u : S) (t : State) (H1 : Heap) (locs1 : List Loc), t.heap = H1 → s.vm.Alike t.vm → post r u → B u t → H.size ≤ H1.size → (∀ q : Nat, q < H.size → ¬ A1 q → H1[q]? = H[q]?) → va_S A0 H0 H1 locs1 → W p l e R s m args below meth c H1 locs1 (cells + mc) (slots + ms) Q (F0 m (pc + 3) ls (.int r :: rest))) : W p l e R s m args below meth c H locs cells slots Q (F0 m pc ls st0) := by
  intro T hT X
  rcases hr T hT X with ⟨v, st₀, t, T', L, h0, X', hL, e1, e2, ⟨⟨r, u, hv, hp, hb⟩, hF⟩, st⟩ | ⟨q, st₀, t, T', L, E, ce, h0, X', hL, e1, e2, ⟨u, hp, hb, hF⟩, hce, hcv, hcl, st⟩
  · cases hv
    obtain ⟨k1, k2, k3⟩ := vx_keep h0 e1 hS hA hf hL hF
    obtain ⟨t2, a1, b1⟩ := kk r u t T'.heap (locs ++ L) e1.symm (by rw [← e2]; exact X'.warmed.alike) hp hb k1 k2 k3 T' rfl X'
    exact ⟨t2, st t2 a1, b1⟩
  · obtain ⟨k1, k2, k3⟩ := vx_keep h0 e1 hS hAX hf hL hF
    obtain ⟨t2, a1, b1⟩ := kx E ce q u t T'.heap (locs ++ L) e1.symm (by rw [← e2]; exact X'.warmed.alike) hp hb k1 k2 k3 (by rw [e1]; exact hce) hcv hcl T' rfl X'
    exact ⟨t2, st.trans a1, b1⟩
theorem vx_calll {S SX : Type} {post : Int64 → S → Prop} {px : SX → Prop} {B : S → State → Prop} {BX : String → SX → State → Prop} {AX : Nat → Prop} (hr : vx_Run p l e R s m args below meth c H locs cells slots mc ms (F0 m pc ls st0) rest (va_Ql post B A1 a) (vx_X px BX AX) free) (hS : va_S A0 H0 H locs) (hA : ∀ q, q < H.size → A1 q → A0 q) (hf : ∀ q, free q → A0 q) (hAX : ∀ q, q < H.size → AX q → A0 q)
    (kx : ∀ (E : String) (ce : Cell) (q9 : Addr) (u : SX) (t : State) (H1 : Heap) (locs1 : List Loc), t.heap = H1 → s.vm.Alike t.vm → px u → BX E u t → H.size ≤ H1.size → (∀ q : Nat, q < H.size → ¬ AX q → H1[q]? = H[q]?) → va_S A0 H0 H1 locs1 → H1[q9]? = some ce → ce.vm = .none → s.vm.findClass E = some ce.cls → vx_W p l e R s m args below meth c H1 locs1 (cells + mc) (slots + ms) Q (F0 m pc ls rest) q9)
    (kk : ∀ (r : Int64) (u : S) (t : State) (H1 : Heap) (locs1 : List Loc), t.heap = H1 → s.vm.Alike t.vm → post r u → B u t → H.size ≤ H1.size → (∀ q : Nat, q < H.size → ¬ A1 q → H1[q]? = H[q]?) → va_S A0 H0 H1 locs1 → W p l e R s m args below meth c H1 locs1 (cells + mc) (slots + ms) Q (F0 m (pc + 3) ls (.long r :: rest))) : W p l e R s m args below meth c H locs cells slots Q (F0 m pc ls st0) := by
  intro T hT X
  rcases hr T hT X with ⟨v, st₀, t, T', L, h0, X', hL, e1, e2, ⟨⟨r, u, hv, hp, hb⟩, hF⟩, st⟩ | ⟨q, st₀, t, T', L, E, ce, h0, X', hL, e1, e2, ⟨u, hp, hb, hF⟩, hce, hcv, hcl, st⟩
  · cases hv
    obtain ⟨k1, k2, k3⟩ := vx_keep h0 e1 hS hA hf hL hF
    obtain ⟨t2, a1, b1⟩ := kk r u t T'.heap (locs ++ L) e1.symm (by rw [← e2]; exact X'.warmed.alike) hp hb k1 k2 k3 T' rfl X'
    exact ⟨t2, st t2 a1, b1⟩
  · obtain ⟨k1, k2, k3⟩ := vx_keep h0 e1 hS hAX hf hL hF
    obtain ⟨t2, a1, b1⟩ := kx E ce q u t T'.heap (locs ++ L) e1.symm (by rw [← e2]; exact X'.warmed.alike) hp hb k1 k2 k3 (by rw [e1]; exact hce) hcv hcl T' rfl X'
    exact ⟨t2, st.trans a1, b1⟩
theorem vx_callf {S SX : Type} {post : UInt32 → S → Prop} {px : SX → Prop} {B : S → State → Prop} {BX : String → SX → State → Prop} {AX : Nat → Prop} (hr : vx_Run p l e R s m args below meth c H locs cells slots mc ms (F0 m pc ls st0) rest (va_Qf post B A1 a) (vx_X px BX AX) free) (hS : va_S A0 H0 H locs) (hA : ∀ q, q < H.size → A1 q → A0 q) (hf : ∀ q, free q → A0 q) (hAX : ∀ q, q < H.size → AX q → A0 q)
    (kx : ∀ (E : String) (ce : Cell) (q9 : Addr) (u : SX) (t : State) (H1 : Heap) (locs1 : List Loc), t.heap = H1 → s.vm.Alike t.vm → px u → BX E u t → H.size ≤ H1.size → (∀ q : Nat, q < H.size → ¬ AX q → H1[q]? = H[q]?) → va_S A0 H0 H1 locs1 → H1[q9]? = some ce → ce.vm = .none → s.vm.findClass E = some ce.cls → vx_W p l e R s m args below meth c H1 locs1 (cells + mc) (slots + ms) Q (F0 m pc ls rest) q9)
    (kk : ∀ (r : UInt32) (u : S) (t : State) (H1 : Heap) (locs1 : List Loc), t.heap = H1 → s.vm.Alike t.vm → post r u → B u t → H.size ≤ H1.size → (∀ q : Nat, q < H.size → ¬ A1 q → H1[q]? = H[q]?) → va_S A0 H0 H1 locs1 → W p l e R s m args below meth c H1 locs1 (cells + mc) (slots + ms) Q (F0 m (pc + 3) ls (.float r :: rest))) : W p l e R s m args below meth c H locs cells slots Q (F0 m pc ls st0) := by
  intro T hT X
  rcases hr T hT X with ⟨v, st₀, t, T', L, h0, X', hL, e1, e2, ⟨⟨r, u, hv, hp, hb⟩, hF⟩, st⟩ | ⟨q, st₀, t, T', L, E, ce, h0, X', hL, e1, e2, ⟨u, hp, hb, hF⟩, hce, hcv, hcl, st⟩
  · cases hv
    obtain ⟨k1, k2, k3⟩ := vx_keep h0 e1 hS hA hf hL hF
    obtain ⟨t2, a1, b1⟩ := kk r u t T'.heap (locs ++ L) e1.symm (by rw [← e2]; exact X'.warmed.alike) hp hb k1 k2 k3 T' rfl X'
    exact ⟨t2, st t2 a1, b1⟩
  · obtain ⟨k1, k2, k3⟩ := vx_keep h0 e1 hS hAX hf hL hF
    obtain ⟨t2, a1, b1⟩ := kx E ce q u t T'.heap (locs ++ L) e1.symm (by rw [← e2]; exact X'.warmed.alike) hp hb k1 k2 k3 (by rw [e1]; exact hce) hcv hcl T' rfl X'
    exact ⟨t2, st.trans a1, b1⟩
theorem vx_calld {S SX : Type} {post : UInt64 → S → Prop} {px : SX → Prop} {B : S → State → Prop} {BX : String → SX → State → Prop} {AX : Nat → Prop} (hr : vx_Run p l e R s m args below meth c H locs cells slots mc ms (F0 m pc ls st0) rest (va_Qd post B A1 a) (vx_X px BX AX) free) (hS : va_S A0 H0 H locs) (hA : ∀ q, q < H.size → A1 q → A0 q) (hf : ∀ q, free q → A0 q) (hAX : ∀ q, q < H.size → AX q → A0 q)
    (kx : ∀ (E : String) (ce : Cell) (q9 : Addr) (u : SX) (t : State) (H1 : Heap) (locs1 : List Loc), t.heap = H1 → s.vm.Alike t.vm → px u → BX E u t → H.size ≤ H1.size → (∀ q : Nat, q < H.size → ¬ AX q → H1[q]? = H[q]?) → va_S A0 H0 H1 locs1 → H1[q9]? = some ce → ce.vm = .none → s.vm.findClass E = some ce.cls → vx_W p l e R s m args below meth c H1 locs1 (cells + mc) (slots + ms) Q (F0 m pc ls rest) q9)
    (kk : ∀ (r : UInt64) (u : S) (t : State) (H1 : Heap) (locs1 : List Loc), t.heap = H1 → s.vm.Alike t.vm → post r u → B u t → H.size ≤ H1.size → (∀ q : Nat, q < H.size → ¬ A1 q → H1[q]? = H[q]?) → va_S A0 H0 H1 locs1 → W p l e R s m args below meth c H1 locs1 (cells + mc) (slots + ms) Q (F0 m (pc + 3) ls (.double r :: rest))) : W p l e R s m args below meth c H locs cells slots Q (F0 m pc ls st0) := by
  intro T hT X
  rcases hr T hT X with ⟨v, st₀, t, T', L, h0, X', hL, e1, e2, ⟨⟨r, u, hv, hp, hb⟩, hF⟩, st⟩ | ⟨q, st₀, t, T', L, E, ce, h0, X', hL, e1, e2, ⟨u, hp, hb, hF⟩, hce, hcv, hcl, st⟩
  · cases hv
    obtain ⟨k1, k2, k3⟩ := vx_keep h0 e1 hS hA hf hL hF
    obtain ⟨t2, a1, b1⟩ := kk r u t T'.heap (locs ++ L) e1.symm (by rw [← e2]; exact X'.warmed.alike) hp hb k1 k2 k3 T' rfl X'
    exact ⟨t2, st t2 a1, b1⟩
  · obtain ⟨k1, k2, k3⟩ := vx_keep h0 e1 hS hAX hf hL hF
    obtain ⟨t2, a1, b1⟩ := kx E ce q u t T'.heap (locs ++ L) e1.symm (by rw [← e2]; exact X'.warmed.alike) hp hb k1 k2 k3 (by rw [e1]; exact hce) hcv hcl T' rfl X'
    exact ⟨t2, st.trans a1, b1⟩
theorem vx_callv {S SX : Type} {post : S → Prop} {px : SX → Prop} {B : S → State → Prop} {BX : String → SX → State → Prop} {AX : Nat → Prop} (hr : vx_Run p l e R s m args below meth c H locs cells slots mc ms (F0 m pc ls st0) rest (va_Qv post B A1 a) (vx_X px BX AX) free) (hS : va_S A0 H0 H locs) (hA : ∀ q, q < H.size → A1 q → A0 q) (hf : ∀ q, free q → A0 q) (hAX : ∀ q, q < H.size → AX q → A0 q)
    (kx : ∀ (E : String) (ce : Cell) (q9 : Addr) (u : SX) (t : State) (H1 : Heap) (locs1 : List Loc), t.heap = H1 → s.vm.Alike t.vm → px u → BX E u t → H.size ≤ H1.size → (∀ q : Nat, q < H.size → ¬ AX q → H1[q]? = H[q]?) → va_S A0 H0 H1 locs1 → H1[q9]? = some ce → ce.vm = .none → s.vm.findClass E = some ce.cls → vx_W p l e R s m args below meth c H1 locs1 (cells + mc) (slots + ms) Q (F0 m pc ls rest) q9)
    (kk : ∀ (u : S) (t : State) (H1 : Heap) (locs1 : List Loc), t.heap = H1 → s.vm.Alike t.vm → post u → B u t → H.size ≤ H1.size → (∀ q : Nat, q < H.size → ¬ A1 q → H1[q]? = H[q]?) → va_S A0 H0 H1 locs1 → W p l e R s m args below meth c H1 locs1 (cells + mc) (slots + ms) Q (F0 m (pc + 3) ls (rest))) : W p l e R s m args below meth c H locs cells slots Q (F0 m pc ls st0) := by
  intro T hT X
  rcases hr T hT X with ⟨v, st₀, t, T', L, h0, X', hL, e1, e2, ⟨⟨u, hv, hp, hb⟩, hF⟩, st⟩ | ⟨q, st₀, t, T', L, E, ce, h0, X', hL, e1, e2, ⟨u, hp, hb, hF⟩, hce, hcv, hcl, st⟩
  · cases hv
    obtain ⟨k1, k2, k3⟩ := vx_keep h0 e1 hS hA hf hL hF
    obtain ⟨t2, a1, b1⟩ := kk u t T'.heap (locs ++ L) e1.symm (by rw [← e2]; exact X'.warmed.alike) hp hb k1 k2 k3 T' rfl X'
    exact ⟨t2, st t2 a1, b1⟩
  · obtain ⟨k1, k2, k3⟩ := vx_keep h0 e1 hS hAX hf hL hF
    obtain ⟨t2, a1, b1⟩ := kx E ce q u t T'.heap (locs ++ L) e1.symm (by rw [← e2]; exact X'.warmed.alike) hp hb k1 k2 k3 (by rw [e1]; exact hce) hcv hcl T' rfl X'
    exact ⟨t2, st.trans a1, b1⟩
/-- caught by the row x of this method's table; the rows ahead don't take it -/
theorem vx_catch {own name : String} {E : String} {ce : Cell} {q : Addr} (hown : s.vm.findClass own = some m.cls) (pre : List ExceptionTableEntry) (x : ExceptionTableEntry) (suf : List ExceptionTableEntry) (hsplit : c.exceptionTable.toList = pre ++ x :: suf)
    (hpass : ∀ z ∈ pre, covers z pc = false ∨ (z.catchType ≠ 0 ∧ ∃ nm : String, (Cond.classLink own z.catchType nm).before args s = true ∧ va_Nc E nm s)) (hx : covers x pc = true) (h0 : x.catchType ≠ 0)
    (hlink : (Cond.classLink own x.catchType name).before args s = true) (hcast : (Cond.castable E name).before args s = true) (hcell : H[q]? = some ce) (hv : ce.vm = .none) (hcl : s.vm.findClass E = some ce.cls)
    (kk : W p l e R s m args below meth c H locs cells slots Q (F0 m x.handlerPc ls [.ref q])) : vx_W p l e R s m args below meth c H locs cells slots Q (F0 m pc ls rest) q := by
  intro T hT X
  have hpl : e.platform.magicAccessors = ({} : Platform).magicAccessors := by rw [X.admits.platform]
  obtain ⟨c3, c4, hc3, hc4, hasg⟩ := Cond.castable_spec hcast
  cases Option.some.inj (hc3.symm.trans hcl)
  obtain ⟨c5, hc5, hcl5⟩ := Cond.classLink_spec hown hlink e.platform hpl
  cases Option.some.inj (hc4.symm.trans hc5)
  obtain ⟨vm', X', st⟩ := X.thenCaughtThrough q (g := F0 m pc ls rest) rfl (Steps.refl _) (by rw [hT]; exact hcell) (by rw [hv]; rfl) (by obtain ⟨k9, h9, -⟩ := Vm.findClass_spec hcl; exact ⟨k9, h9⟩) pre x suf hsplit
    (fun z hz => by
      rcases hpass z hz with h | ⟨hz0, nm, hl1, hn1⟩
      · exact Or.inl h
      · obtain ⟨c6, hc6, hcl6⟩ := Cond.classLink_spec hown hl1 e.platform hpl
        obtain ⟨a8, b8, h1, h2, h3⟩ := hn1
        cases Option.some.inj (h1.symm.trans hcl)
        cases Option.some.inj (h2.symm.trans hc6)
        exact Or.inr ⟨hz0, _, hcl6, h3⟩) hx (Or.inr ⟨h0, c4, hcl5, hasg⟩)
  obtain ⟨t, a1, b1⟩ := kk (T.setVm vm') hT X'
  exact ⟨t, st.trans a1, b1⟩
end Rows
section Ends
variable {p : Program} {l : Launch} {e : Env} {R : Room} {s : State} {m : MethodId} {args : Array Value} {below : List Frame} {meth : Method} {c : Code} {H : Heap} {locs : List Loc} {cells slots : Nat} {Q : State → Prop}
variable {mc ms : Nat} {free : Addr → Prop} {A0 A1 : Nat → Prop} {H0 : Heap} {a : Array Value} {ls : Array Slot} {st0 rest : List Value}
variable {Qc : Array Value → State → Outcome → State → Prop} {XC : String → State → State → Prop}
/-- what a body that may throw owes at its end -/
def vx_MQ (below : List Frame) (Qc : Array Value → State → Outcome → State → Prop) (XC : String → State → State → Prop) (a : Array Value) (s : State) (mc ms : Nat) (free : Addr → Prop) : State → Prop := fun t =>
  ∃ o, t.status = .running ∧ Ended t below o ∧ vx_Q Qc XC mc ms free a s o t
theorem vx_ret {g : JFrame} {mc ms : Nat} (k : W p l e R s m args below meth c H locs cells slots (MQ below Qc args s mc ms free) g) : W p l e R s m args below meth c H locs cells slots (vx_MQ below Qc XC args s mc ms free) g := by
  intro T hT X
  obtain ⟨t, a1, o, b1, b2, b3, b4⟩ := k T hT X
  exact ⟨t, a1, o, b1, b2, Or.inl ⟨b3, b4⟩⟩
/-- not caught here: it goes on to the caller -/
theorem vx_widen {g : JFrame} {q : Addr} {k n : Nat} (h1 : cells ≤ k) (h2 : slots ≤ n) (kk : vx_W p l e R s m args below meth c H locs k n Q g q) : vx_W p l e R s m args below meth c H locs cells slots Q g q := fun T hT X => kk T hT (stand_widen X h1 h2)
theorem vx_out {pc : Nat} {E : String} {ce : Cell} {q : Addr} {mc ms : Nat} (hout : ∀ x ∈ c.exceptionTable.toList, covers x pc = false) (hlocks : meth.locks = false) (hcell : H[q]? = some ce) (hv : ce.vm = .none) (hcl : s.vm.findClass E = some ce.cls)
    (hx : ∀ t : State, t.heap = H → s.vm.Alike t.vm → XC E s t) (hf : ∀ z ∈ locs, free z.base) (hc : cells ≤ mc) (hs : slots ≤ ms) :
    vx_W p l e R s m args below meth c H locs cells slots (vx_MQ below Qc XC args s mc ms free) (F0 m pc ls rest) q := by
  intro T hT X
  obtain ⟨st1, hrun, hend, hW, hsm⟩ := X.leaveThrown q (g := F0 m pc ls rest) rfl rfl rfl hout hlocks
  have hcell9 : (T.setFrames (.throwing q :: below)).heap[q]? = some ce := by
    show T.heap[q]? = some ce
    rw [hT]; exact hcell
  exact ⟨_, st1, .threw q, hrun, hend, Or.inr ⟨q, rfl, E, ce, locs, hx _ hT hW.alike, hcell9, hv, hcl, hW, hsm.mono hc hs, hf⟩⟩
theorem vx_frame {U : State} {k n : Nat} (h : s.sameButNew ({ U with vm := s.vm } : State) locs k n) : s.heap.size ≤ U.heap.size ∧ ∀ q : Nat, q < s.heap.size → (∀ z ∈ locs, z.base ≠ q) → U.heap[q]? = s.heap[q]? := by
  obtain ⟨-, h2, -, -, -, h6⟩ := h
  refine ⟨h2, fun q hq hz => ?_⟩
  obtain ⟨c9, e1, e2, e3, e4⟩ := h6 q _ (Array.getElem?_eq_getElem hq)
  have hs : c9.slots = (s.heap[q]).slots := Array.ext_getElem? fun i => e4 i fun hm => hz _ hm rfl
  have h9 : c9 = s.heap[q] := by
    rw [hs] at e2
    exact e2
  have e5 : U.heap[q]? = some c9 := e1
  rw [e5, h9, Array.getElem?_eq_getElem hq]
/-- the words of a throw but the four that speak of the heap -/
def vx_no (w : Cond) : Bool := decide (w ≠ .isRef (.static Bundle.tN "UNASSIGNED_STACK" Bundle.steD)) && decide (w ≠ .isRef (.static Bundle.tN "SUPPRESSED_SENTINEL" Bundle.listD)) && decide (w ≠ .laysStatic Bundle.tN "UNASSIGNED_STACK" Bundle.steD) && decide (w ≠ .laysStatic Bundle.tN "SUPPRESSED_SENTINEL" Bundle.listD)
def vx_at0 (own : String) (ic : Nat) (X : String) (names : List String) : List Cond := (Bundle.ownAtoms0 own ic X names).filter vx_no
def vx_atS (own : String) (ic : Nat) (X : String) (names : List String) : List Cond := (Bundle.ownAtoms own ic X names).filter vx_no
/-- a word that the tables alone decide, or a good one -/
def vx_ot (w : Cond) : Bool := w.onTables || goodWord w
theorem vx_ot_at {args a' : Array Value} {s U : State} {w : Cond} (hW : s.WarmedH U.vm) (hvm : s.vm = U.vm) (hg : vx_ot w = true) (h : w.before args s = true) : w.before a' U = true := by
  simp only [vx_ot, Bool.or_eq_true] at hg
  rcases hg with hg | hg
  · exact va_tabs hg hvm h
  · exact word_at hW (good_of_word hg) h
/-- a list's words: the good ones out of the method's own list, the others by premises of their own -/
theorem vx_hat {args : Array Value} {s : State} {L B : List Cond} (h1 : ∀ w ∈ L.filter goodWord, w.before args s = true) (h2 : ∀ w ∈ L.filter (fun w => !goodWord w), w ∈ B) (h3 : ∀ w ∈ B, w.before args s = true) : ∀ w ∈ L, w.before args s = true := by
  intro w hw
  by_cases g : goodWord w = true
  · exact h1 w (List.mem_filter.mpr ⟨hw, g⟩)
  · refine h3 w (h2 w (List.mem_filter.mpr ⟨hw, ?_⟩))
    show (!goodWord w) = true
    cases hgw : goodWord w
    · rfl
    · exact absurd hgw g
theorem vx_c {args : Array Value} {s : State} {w : Cond} {B : List Cond} (h : w.before args s = true) (t : ∀ w ∈ B, w.before args s = true) : ∀ w' ∈ w :: B, w'.before args s = true := fun w' h' => (List.mem_cons.mp h').elim (fun e => by rw [e]; exact h) (t w')
theorem vx_n {args : Array Value} {s : State} : ∀ w ∈ ([] : List Cond), w.before args s = true := fun _ h => nomatch h
theorem vx_own {args : Array Value} {s : State} {L : List Cond} (h1 : ∀ w ∈ L.filter vx_no, w.before args s = true)
    (hU : (Cond.isRef (.static Bundle.tN "UNASSIGNED_STACK" Bundle.steD)).before args s = true) (hN : (Cond.isRef (.static Bundle.tN "SUPPRESSED_SENTINEL" Bundle.listD)).before args s = true)
    (lU : (Cond.laysStatic Bundle.tN "UNASSIGNED_STACK" Bundle.steD).before args s = true) (lN : (Cond.laysStatic Bundle.tN "SUPPRESSED_SENTINEL" Bundle.listD).before args s = true) : ∀ w ∈ L, w.before args s = true := by
  intro w hw
  by_cases e1 : w = .isRef (.static Bundle.tN "UNASSIGNED_STACK" Bundle.steD)
  · rw [e1]; exact hU
  · by_cases e2 : w = .isRef (.static Bundle.tN "SUPPRESSED_SENTINEL" Bundle.listD)
    · rw [e2]; exact hN
    · by_cases e3 : w = .laysStatic Bundle.tN "UNASSIGNED_STACK" Bundle.steD
      · rw [e3]; exact lU
      · by_cases e4 : w = .laysStatic Bundle.tN "SUPPRESSED_SENTINEL" Bundle.listD
        · rw [e4]; exact lN
        · exact h1 w (List.mem_filter.mpr ⟨hw, by unfold vx_no; rw [decide_eq_true e1, decide_eq_true e2, decide_eq_true e3, decide_eq_true e4]; rfl⟩)
/-- where a static field lies, its class's statics cell in H -/
def vx_L (C n d : String) (A : Nat → Prop) (U : State) (H : Heap) : Prop := ∃ (c : ClassId) (k : Class) (i : Nat) (f : Field) (a : Nat) (cell : Cell), U.vm.findClass C = some c ∧ U.fieldFound? C n d = some (c, k, i, f) ∧ f.isStatic = true ∧ k.statics = some a ∧ H[a]? = some cell ∧ cell.vm.isStatics = true ∧ cell.cls = c ∧ f.slot < cell.slots.size ∧ k.staticTypes[f.slot]? = some f.type ∧ ¬ A a
theorem vx_L.moved {C n d : String} {A : Nat → Prop} {u U : State} {H : Heap} (hvm : u.vm.Alike U.vm) (h : vx_L C n d A u H) : vx_L C n d A U H := by
  obtain ⟨c, k, i, f, a, cell, h1, h2, h3, h4, h5, h6, h7, h8, h9, h10⟩ := h
  obtain ⟨k', hi', he⟩ := State.fieldFound?_setVm hvm h2
  exact ⟨c, k', i, f, a, cell, by rw [hvm.findClass]; exact h1, hi', h3, by rw [he]; exact h4, h5, h6, h7, h8, by rw [he]; exact h9, h10⟩
theorem vx_L.kept {C n d : String} {A : Nat → Prop} {U : State} {H H1 : Heap} (h : vx_L C n d A U H) (hq : ∀ a : Nat, a < H.size → ¬ A a → H1[a]? = H[a]?) : vx_L C n d A U H1 := by
  obtain ⟨c, k, i, f, a, cell, h1, h2, h3, h4, h5, h6, h7, h8, h9, h10⟩ := h
  exact ⟨c, k, i, f, a, cell, h1, h2, h3, h4, by rw [hq a (Array.getElem?_eq_some_iff.mp h5).1 h10]; exact h5, h6, h7, h8, h9, h10⟩
theorem vx_L.narrow {C n d : String} {A B : Nat → Prop} {U : State} {H : Heap} (h : vx_L C n d A U H) (hAB : ∀ q, B q → A q) : vx_L C n d B U H := by
  obtain ⟨c, k, i, f, a, cell, h1, h2, h3, h4, h5, h6, h7, h8, h9, h10⟩ := h
  exact ⟨c, k, i, f, a, cell, h1, h2, h3, h4, h5, h6, h7, h8, h9, fun z => h10 (hAB _ z)⟩
theorem vx_L.word {C n d : String} {A : Nat → Prop} {s : State} {args : Array Value} (h : vx_L C n d A s s.heap) : (Cond.laysStatic C n d).before args s = true := by
  obtain ⟨c, k, i, f, a, cell, h1, h2, h3, h4, h5, h6, h7, h8, h9, -⟩ := h
  show (Cond.laysStatic C n d).holds args s none s [] = true
  exact Cond.laysStatic_of h1 h2 h3 h4 h5 h6 h7 h8 h9
/-- .. and what it holds: null or some reference -/
def vx_Zq (C n d : String) (A : Nat → Prop) (U : State) (H : Heap) : Prop := va_Zq C n d A U H ∧ vx_L C n d A U H
theorem vx_Zq.moved {C n d : String} {A : Nat → Prop} {u U : State} {H : Heap} (hvm : u.vm.Alike U.vm) (h : vx_Zq C n d A u H) : vx_Zq C n d A U H := ⟨va_Zq.moved hvm h.1, vx_L.moved hvm h.2⟩
theorem vx_Zq.kept {C n d : String} {A : Nat → Prop} {U : State} {H H1 : Heap} (h : vx_Zq C n d A U H) (hq : ∀ a : Nat, a < H.size → ¬ A a → H1[a]? = H[a]?) : vx_Zq C n d A U H1 := ⟨va_Zq.kept h.1 hq, vx_L.kept h.2 hq⟩
theorem vx_Zq.narrow {C n d : String} {A B : Nat → Prop} {U : State} {H : Heap} (h : vx_Zq C n d A U H) (hAB : ∀ q, B q → A q) : vx_Zq C n d B U H := ⟨va_Zq.narrow h.1 hAB, vx_L.narrow h.2 hAB⟩
theorem vx_Zqof {args : Array Value} {s : State} {C n d : String} {A : Nat → Prop} (hl : (Cond.laysStatic C n d).before args s = true) (hini : (Cond.initialized C).before args s = true) (h : (Cond.isRef (.static C n d)).before args s = true) (hA : ∀ a : Nat, a < s.heap.size → ¬ A a) : vx_Zq C n d A s s.heap := by
  refine ⟨va_Zqof hl hini h hA, ?_⟩
  obtain ⟨c, k, i, f, a, cell, h1, h2, h3, h4, h5, h6, h7, h8, h9⟩ := Cond.laysStatic_spec hl
  exact ⟨c, k, i, f, a, cell, h1, h2, h3, h4, h5, h6, h7, h8, h9, hA a (Array.getElem?_eq_some_iff.mp h5).1⟩
theorem vx_isRef {C n d : String} {v : Value} {A : Nat → Prop} {s : State} {args : Array Value} (h : va_Z C n d v A s s.heap) (hv : v.isRef = true) : (Cond.isRef (.static C n d)).before args s = true := by
  obtain ⟨cf, kf, fi, f, a, cell, h1, h2, h3, h4, h5, h6, h7, -⟩ := h
  have he : (Term.static C n d).eval args s none [] s = some v := by
    simp [Term.eval, State.fieldNamed?, h1, h2, h4, h5, h6, h7]
  simp only [Cond.before, Cond.holds, Cond.value, he]
  cases v <;> simp_all [Value.isRef]
theorem vx_isRefq {C n d : String} {A : Nat → Prop} {s : State} {args : Array Value} (h : va_Zq C n d A s s.heap) : (Cond.isRef (.static C n d)).before args s = true := by
  rcases h with h | ⟨t, h⟩
  · exact vx_isRef h rfl
  · exact vx_isRef h rfl
/-- the same frame, seen from here: as if the method were called anew in this heap -/
theorem vx_rebase {T : State} (X : Stand p l e R s m args below meth c T locs cells slots) {R' : Room} (hf : R'.frames ≤ R.frames) (hl : R'.locals ≤ R.locals) (hc : cells + R'.cells ≤ R.cells) (hs : slots + R'.slots ≤ R.slots) :
    Stand p l e R' ((T.setVm s.vm).setFrames (.invoking m args :: below)) m args below meth c T [] 0 0 := by
  have htop : (T.setVm s.vm).topJava?.isSome := X.here.top
  have hF : ((T.setVm s.vm).setFrames (.invoking m args :: below)).frames = .invoking m args :: below := State.frames_setFrames _ (State.cur_lt_of_top htop)
  obtain ⟨g₀, hg0⟩ := Option.isSome_iff_exists.mp htop
  obtain ⟨r, hr⟩ := State.topJava?_eq_some.mp hg0
  have hl9 : e.platform.stackLimits (T.setVm s.vm).me = e.platform.stackLimits s.me := X.limits
  have hb9 : (T.setVm s.vm).me.stackBytes = s.me.stackBytes := X.bytes
  refine ⟨X.admits, X.cas, X.clock, hF, ?_, X.hears, X.method, X.code, X.here, X.tail, X.warmed, ?_, ?_, ?_⟩
  · have h := X.room
    have hU : ((T.setVm s.vm).setFrames (.invoking m args :: below)).localsInUse = s.localsInUse := by
      rw [State.localsInUse_invoking hF (meth := meth) (c := c) X.method X.code, State.localsInUse_invoking X.frames X.method X.code]
    simp only [State.hasRoom, Bool.and_eq_true, decide_eq_true_eq] at h ⊢
    obtain ⟨⟨⟨⟨h1, h2, h3, h4, h5, h6⟩, h7⟩, h8⟩, h9⟩ := h
    rw [X.frames, List.length_cons] at h2 h3
    have q1 := X.heapSize
    have q2 := X.used
    simp only [hF, hU, List.length_cons, State.stackLimits_setFrames, State.stackBytes_setFrames, hl9, hb9]
    refine ⟨⟨⟨⟨by omega, by omega, by omega, by omega, by omega, h6⟩, ?_⟩, ?_⟩, X.book⟩
    · show T.heap.size + R'.cells ≤ e.platform.maxCells
      omega
    · show T.slotsUsed + R'.slots ≤ e.platform.maxSlots
      omega
  · rw [State.stackLimits_setFrames]; rfl
  · rw [State.stackBytes_setFrames]; rfl
  · refine ⟨?_, Nat.le_refl _, Nat.le_refl _, ?_, ?_, fun a c9 h9 => ⟨c9, h9, rfl, rfl, fun _ _ => rfl⟩⟩
    · obtain ⟨t, ht, -⟩ := State.frames_cons hr
      show T.setVm s.vm = { ((T.setVm s.vm).setFrames (.invoking m args :: below)).setFrames (T.setVm s.vm).frames with heap := T.heap, slotsUsed := T.slotsUsed }
      rw [State.setFrames_setFrames, State.setFrames_self ht]
      rfl
    · show T.slotsUsed = T.slotsUsed + ((T.heap.toList.drop T.heap.size).map (·.slots.size)).sum
      rw [List.drop_eq_nil_of_le (Nat.le_of_eq Array.length_toList)]
      rfl
    · show ((T.heap.toList.drop T.heap.size).map (·.slots.size)).sum ≤ 0
      rw [List.drop_eq_nil_of_le (Nat.le_of_eq Array.length_toList)]
      exact Nat.le_refl _
/-- 'throw new E()': new; dup; invokespecial; athrow -/
theorem vx_throw0 {cc : ByteArray} {pc : Nat} (hexec : p.tables.exec = Jvm.exec) (hb : c.code = cc) (hl : l.stackTraces = false) {own cls : String} {names : List String} {ik ic mc ms : Nat} {A : Nat → Prop}
    (hown : s.vm.findClass own = some m.cls) (hcls : Bundle.fit cls = true) (hnames : ∀ n ∈ names, Bundle.fit n = true)
    (hk : (Cond.classLink own ik cls).before args s = true) (hini : (Cond.initialized cls).before args s = true) (hat : ∀ w ∈ vx_at0 own ic cls names, w.before args s = true)
    (hgood : ∀ w ∈ Cond.classLink own ik cls :: Cond.initialized cls :: vx_at0 own ic cls names, vx_ot w = true)
    (hU : vx_Zq Bundle.tN "UNASSIGNED_STACK" Bundle.steD A s s.heap) (hN : vx_Zq Bundle.tN "SUPPRESSED_SENTINEL" Bundle.listD A s s.heap) (hS : va_S A s.heap H locs) (hsize : ls.size = c.maxLocals)
    (d0 : decode cc pc = .ok (.new ik, 3)) (d3 : decode cc (pc + 3) = .ok (.dup, 1)) (d4 : decode cc (pc + 4) = .ok (.invokespecial ic, 3)) (d7 : decode cc (pc + 7) = .ok (.athrow, 1))
    (hout : ∀ x ∈ c.exceptionTable.toList, covers x (pc + 7) = false)
    (hRframes : names.length + 3 < R.frames) (hRlocals : (rest.map fun v => v.category).sum + (13 * (names.length + 1) + 42) ≤ R.locals) (hRcells : cells + 1 ≤ R.cells) (hRslots : slots + 6 ≤ R.slots) (hlocks : meth.locks = false)
    (hx : ∀ t : State, s.vm.Alike t.vm → H.size ≤ t.heap.size → (∀ q : Nat, q < H.size → t.heap[q]? = H[q]?) → XC cls s t)
    (hf : ∀ z ∈ locs, free z.base) (hc : cells + 1 ≤ mc) (hs : slots + 6 ≤ ms) :
    W p l e R s m args below meth c H locs cells slots (vx_MQ below Qc XC args s mc ms free) (F0 m pc ls rest) := by
  intro T hT X
  have htr : e.platform.stackTraces = false := (show e.platform.stackTraces = l.stackTraces by rw [X.admits.platform]).trans hl
  have Y := vx_rebase X (R' := { frames := R.frames, locals := R.locals, cells := 1, slots := 6 }) (Nat.le_refl _) (Nat.le_refl _) hRcells hRslots
  obtain ⟨s', hA⟩ : ∃ z, z = (T.setVm s.vm).setFrames (.invoking m args :: below) := ⟨_, rfl⟩
  rw [← hA] at Y
  have hvm : s'.vm = s.vm := by rw [hA]; rfl
  have hhp : s'.heap = H := by rw [hA]; exact hT
  have hW0 : s.WarmedH s'.vm := by rw [hvm]; exact State.WarmedH.refl s
  have hat' : ∀ w ∈ vx_at0 own ic cls names, w.before args s' = true := fun w hw => vx_ot_at hW0 hvm.symm (hgood w (List.mem_cons_of_mem _ (List.mem_cons_of_mem _ hw))) (hat w hw)
  have hk' : (Cond.classLink own ik cls).before args s' = true := vx_ot_at hW0 hvm.symm (hgood _ List.mem_cons_self) hk
  have hini' : (Cond.initialized cls).before args s' = true := vx_ot_at hW0 hvm.symm (hgood _ (List.mem_cons_of_mem _ List.mem_cons_self)) hini
  have hU' : vx_Zq Bundle.tN "UNASSIGNED_STACK" Bundle.steD A s' s'.heap := by rw [hhp]; exact vx_Zq.moved hW0.alike (hU.kept hS.2.1)
  have hN' : vx_Zq Bundle.tN "SUPPRESSED_SENTINEL" Bundle.listD A s' s'.heap := by rw [hhp]; exact vx_Zq.moved hW0.alike (hN.kept hS.2.1)
  have h : ∀ w ∈ Bundle.ownAtoms0 own ic cls names, w.before args s' = true := vx_own hat' (vx_isRefq hU'.1) (vx_isRefq hN'.1) hU'.2.word hN'.2.word
  have hown' : s'.vm.findClass own = some m.cls := by rw [hvm]; exact hown
  have hins : (Cond.instantiable cls 6).before args s' = true := h _ (by simp [Bundle.ownAtoms0])
  obtain ⟨vm₁, cX, kX, hfX, hkX, -, -, X₁, st1⟩ := Y.newCold hexec (own := own) (C := cls) (index := ik) (n := 6) hown' hk' hins hini'
    (g := F0 m pc ls rest) rfl (by rw [hb]; exact d0) (Nat.le_refl _) (Nat.le_refl _)
  generalize hT1 : (T.setVm vm₁).pushCell { cls := cX, slots := kX.instanceTypes.map defaultValue, vm := .none } = T1 at X₁ st1
  have hcat : (Value.ref T.heap.size).category = 1 := rfl
  have hcellA : T1.heap[T.heap.size]? = some (freshCell cX kX) := by rw [← hT1]; exact State.heap_pushCell_size _ _
  have d3' : decode c.code (pc + 3) = .ok (.dup, 1) := by rw [hb]; exact d3
  obtain ⟨U, hsteps, hrun, hend, hW, hsame, ce, hce, hO⟩ := X₁.ctorThrow0 hexec htr (own := own) (cls := cls) (names := names) (ic := ic) hown' hcls hnames h (fun x hx => nomatch hx) hfX hkX hcellA (by rw [hhp, hT]; exact Nat.le_refl _)
    (g := { method := m, pc := pc + 4, locals := ls, stack := .ref T.heap.size :: .ref T.heap.size :: rest, locked := none }) rfl hsize rfl rfl (rest := rest) rfl
    (by rw [hb]; exact d4) (by rw [hb]; exact d7) hout hRframes (by simp only [List.map_cons, List.sum_cons, hcat]; omega) hlocks
  obtain ⟨f1, f2⟩ := vx_frame hsame
  rw [hhp] at f1 f2
  have hWs : s.WarmedH U.vm := State.WarmedH.trans hW0 hW
  have hcl : s.vm.findClass cls = some ce.cls := by
    have h9 := hO.cls
    rw [hvm] at h9
    exact h9
  have hall : s.sameButNew ({ U with vm := s.vm } : State) locs mc ms := by
    subst hA
    obtain ⟨e1, e2⟩ := hsame
    rw [State.setFrames_setFrames] at e1
    have h2 : (T.setVm s.vm).sameButNew ({ U with vm := s.vm } : State) [] (0 + 1) (0 + 6) := ⟨e1, e2⟩
    have h3 := X.same.trans h2
    rw [List.append_nil] at h3
    exact h3.mono hc hs
  refine ⟨U, ?_, .threw T.heap.size, hrun, hend, Or.inr ⟨T.heap.size, rfl, cls, ce, locs, hx U hWs.alike f1 (fun q hq => f2 q hq (fun z hz => nomatch hz)), hce, hO.vm, hcl, hWs, hall, hf⟩⟩
  refine st1 _ ?_
  show Steps p.tables e below (T1.setTop { method := m, pc := pc + 3, locals := ls, stack := .ref T.heap.size :: rest, locked := none }) _
  jvm_step X₁.here [X₁.here.top, hexec, d3', Value.category]
  exact hsteps
/-- 'throw new E("text")': new; dup; ldc; invokespecial; athrow -/
theorem vx_throwS {cc : ByteArray} {pc : Nat} (hexec : p.tables.exec = Jvm.exec) (hb : c.code = cc) (hl : l.stackTraces = false) {own cls text : String} {names : List String} {ik is ic mc ms sa : Nat} {A : Nat → Prop}
    (hown : s.vm.findClass own = some m.cls) (hcls : Bundle.fit cls = true) (hnames : ∀ n ∈ names, Bundle.fit n = true)
    (hk : (Cond.classLink own ik cls).before args s = true) (hini : (Cond.initialized cls).before args s = true) (hstr : vk_R own is text sa s) (hat : ∀ w ∈ vx_atS own ic cls names, w.before args s = true)
    (hgood : ∀ w ∈ Cond.classLink own ik cls :: Cond.initialized cls :: vx_atS own ic cls names, vx_ot w = true)
    (hU : vx_Zq Bundle.tN "UNASSIGNED_STACK" Bundle.steD A s s.heap) (hN : vx_Zq Bundle.tN "SUPPRESSED_SENTINEL" Bundle.listD A s s.heap) (hS : va_S A s.heap H locs) (hsize : ls.size = c.maxLocals)
    (d0 : decode cc pc = .ok (.new ik, 3)) (d3 : decode cc (pc + 3) = .ok (.dup, 1)) (d4 : decode cc (pc + 4) = .ok (.ldc is, 2)) (d6 : decode cc (pc + 6) = .ok (.invokespecial ic, 3)) (d9 : decode cc (pc + 9) = .ok (.athrow, 1))
    (hout : ∀ x ∈ c.exceptionTable.toList, covers x (pc + 9) = false)
    (hRframes : names.length + 3 < R.frames) (hRlocals : (rest.map fun v => v.category).sum + (13 * (names.length + 1) + 43) ≤ R.locals) (hRcells : cells + 1 ≤ R.cells) (hRslots : slots + 6 ≤ R.slots) (hlocks : meth.locks = false)
    (hx : ∀ t : State, s.vm.Alike t.vm → H.size ≤ t.heap.size → (∀ q : Nat, q < H.size → t.heap[q]? = H[q]?) → XC cls s t)
    (hf : ∀ z ∈ locs, free z.base) (hc : cells + 1 ≤ mc) (hs : slots + 6 ≤ ms) :
    W p l e R s m args below meth c H locs cells slots (vx_MQ below Qc XC args s mc ms free) (F0 m pc ls rest) := by
  intro T hT X
  have htr : e.platform.stackTraces = false := (show e.platform.stackTraces = l.stackTraces by rw [X.admits.platform]).trans hl
  have Y := vx_rebase X (R' := { frames := R.frames, locals := R.locals, cells := 1, slots := 6 }) (Nat.le_refl _) (Nat.le_refl _) hRcells hRslots
  obtain ⟨s', hA⟩ : ∃ z, z = (T.setVm s.vm).setFrames (.invoking m args :: below) := ⟨_, rfl⟩
  rw [← hA] at Y
  have hvm : s'.vm = s.vm := by rw [hA]; rfl
  have hhp : s'.heap = H := by rw [hA]; exact hT
  have hW0 : s.WarmedH s'.vm := by rw [hvm]; exact State.WarmedH.refl s
  have hat' : ∀ w ∈ vx_atS own ic cls names, w.before args s' = true := fun w hw => vx_ot_at hW0 hvm.symm (hgood w (List.mem_cons_of_mem _ (List.mem_cons_of_mem _ hw))) (hat w hw)
  have hk' : (Cond.classLink own ik cls).before args s' = true := vx_ot_at hW0 hvm.symm (hgood _ List.mem_cons_self) hk
  have hini' : (Cond.initialized cls).before args s' = true := vx_ot_at hW0 hvm.symm (hgood _ (List.mem_cons_of_mem _ List.mem_cons_self)) hini
  have hU' : vx_Zq Bundle.tN "UNASSIGNED_STACK" Bundle.steD A s' s'.heap := by rw [hhp]; exact vx_Zq.moved hW0.alike (hU.kept hS.2.1)
  have hN' : vx_Zq Bundle.tN "SUPPRESSED_SENTINEL" Bundle.listD A s' s'.heap := by rw [hhp]; exact vx_Zq.moved hW0.alike (hN.kept hS.2.1)
  have h : ∀ w ∈ Bundle.ownAtoms own ic cls names, w.before args s' = true := vx_own hat' (vx_isRefq hU'.1) (vx_isRefq hN'.1) hU'.2.word hN'.2.word
  have hown' : s'.vm.findClass own = some m.cls := by rw [hvm]; exact hown
  have hins : (Cond.instantiable cls 6).before args s' = true := h _ (by simp [Bundle.ownAtoms])
  obtain ⟨vm₁, cX, kX, hfX, hkX, -, -, X₁, st1⟩ := Y.newCold hexec (own := own) (C := cls) (index := ik) (n := 6) hown' hk' hins hini'
    (g := F0 m pc ls rest) rfl (by rw [hb]; exact d0) (Nat.le_refl _) (Nat.le_refl _)
  generalize hT1 : (T.setVm vm₁).pushCell { cls := cX, slots := kX.instanceTypes.map defaultValue, vm := .none } = T1 at X₁ st1
  have hcat : (Value.ref T.heap.size).category = 1 := rfl
  have hcellA : T1.heap[T.heap.size]? = some (freshCell cX kX) := by rw [← hT1]; exact State.heap_pushCell_size _ _
  have d3' : decode c.code (pc + 3) = .ok (.dup, 1) := by rw [hb]; exact d3
  have d4' : decode c.code (pc + 4) = .ok (.ldc is, 2) := by rw [hb]; exact d4
  have hstr' : vk_R own is text sa s' := vk_R.warm hW0 hstr
  obtain ⟨U, hsteps, hrun, hend, hW, hsame, ce, hce, hO⟩ := X₁.ctorThrowS hexec htr (own := own) (cls := cls) (names := names) (ic := ic) hown' hcls hnames h (fun x hx => nomatch hx) hfX hkX hcellA (by rw [hhp, hT]; exact Nat.le_refl _) (msg := .ref sa) rfl
    (g := { method := m, pc := pc + 6, locals := ls, stack := .ref sa :: .ref T.heap.size :: .ref T.heap.size :: rest, locked := none }) rfl hsize rfl rfl (rest := rest) rfl
    (by rw [hb]; exact d6) (by rw [hb]; exact d9) hout hRframes (by simp only [List.map_cons, List.sum_cons, hcat]; omega) hlocks
  obtain ⟨f1, f2⟩ := vx_frame hsame
  rw [hhp] at f1 f2
  have hWs : s.WarmedH U.vm := State.WarmedH.trans hW0 hW
  have hcl : s.vm.findClass cls = some ce.cls := by
    have h9 := hO.cls
    rw [hvm] at h9
    exact h9
  have hall : s.sameButNew ({ U with vm := s.vm } : State) locs mc ms := by
    subst hA
    obtain ⟨e1, e2⟩ := hsame
    rw [State.setFrames_setFrames] at e1
    have h2 : (T.setVm s.vm).sameButNew ({ U with vm := s.vm } : State) [] (0 + 1) (0 + 6) := ⟨e1, e2⟩
    have h3 := X.same.trans h2
    rw [List.append_nil] at h3
    exact h3.mono hc hs
  refine ⟨U, ?_, .threw T.heap.size, hrun, hend, Or.inr ⟨T.heap.size, rfl, cls, ce, locs, hx U hWs.alike f1 (fun q hq => f2 q hq (fun z hz => nomatch hz)), hce, hO.vm, hcl, hWs, hall, hf⟩⟩
  refine st1 _ ?_
  show Steps p.tables e below (T1.setTop { method := m, pc := pc + 3, locals := ls, stack := .ref T.heap.size :: rest, locked := none }) _
  jvm_step X₁.here [X₁.here.top, hexec, d3', Value.category]
  exact X₁.ldcString hexec (own := own) (text := text) (index := is) (a := sa) hown' hstr'.1 hstr'.2
    (g := { method := m, pc := pc + 4, locals := ls, stack := .ref T.heap.size :: .ref T.heap.size :: rest, locked := none }) rfl d4' _ hsteps
/-- 'throw new E("text")', the text by a wide index -/
theorem vx_throwSW {cc : ByteArray} {pc : Nat} (hexec : p.tables.exec = Jvm.exec) (hb : c.code = cc) (hl : l.stackTraces = false) {own cls text : String} {names : List String} {ik is ic mc ms sa : Nat} {A : Nat → Prop}
    (hown : s.vm.findClass own = some m.cls) (hcls : Bundle.fit cls = true) (hnames : ∀ n ∈ names, Bundle.fit n = true)
    (hk : (Cond.classLink own ik cls).before args s = true) (hini : (Cond.initialized cls).before args s = true) (hstr : vk_R own is text sa s) (hat : ∀ w ∈ vx_atS own ic cls names, w.before args s = true)
    (hgood : ∀ w ∈ Cond.classLink own ik cls :: Cond.initialized cls :: vx_atS own ic cls names, vx_ot w = true)
    (hU : vx_Zq Bundle.tN "UNASSIGNED_STACK" Bundle.steD A s s.heap) (hN : vx_Zq Bundle.tN "SUPPRESSED_SENTINEL" Bundle.listD A s s.heap) (hS : va_S A s.heap H locs) (hsize : ls.size = c.maxLocals)
    (d0 : decode cc pc = .ok (.new ik, 3)) (d3 : decode cc (pc + 3) = .ok (.dup, 1)) (d4 : decode cc (pc + 4) = .ok (.ldc_w is, 3)) (d7 : decode cc (pc + 7) = .ok (.invokespecial ic, 3)) (d10 : decode cc (pc + 10) = .ok (.athrow, 1))
    (hout : ∀ x ∈ c.exceptionTable.toList, covers x (pc + 10) = false)
    (hRframes : names.length + 3 < R.frames) (hRlocals : (rest.map fun v => v.category).sum + (13 * (names.length + 1) + 43) ≤ R.locals) (hRcells : cells + 1 ≤ R.cells) (hRslots : slots + 6 ≤ R.slots) (hlocks : meth.locks = false)
    (hx : ∀ t : State, s.vm.Alike t.vm → H.size ≤ t.heap.size → (∀ q : Nat, q < H.size → t.heap[q]? = H[q]?) → XC cls s t)
    (hf : ∀ z ∈ locs, free z.base) (hc : cells + 1 ≤ mc) (hs : slots + 6 ≤ ms) :
    W p l e R s m args below meth c H locs cells slots (vx_MQ below Qc XC args s mc ms free) (F0 m pc ls rest) := by
  intro T hT X
  have htr : e.platform.stackTraces = false := (show e.platform.stackTraces = l.stackTraces by rw [X.admits.platform]).trans hl
  have Y := vx_rebase X (R' := { frames := R.frames, locals := R.locals, cells := 1, slots := 6 }) (Nat.le_refl _) (Nat.le_refl _) hRcells hRslots
  obtain ⟨s', hA⟩ : ∃ z, z = (T.setVm s.vm).setFrames (.invoking m args :: below) := ⟨_, rfl⟩
  rw [← hA] at Y
  have hvm : s'.vm = s.vm := by rw [hA]; rfl
  have hhp : s'.heap = H := by rw [hA]; exact hT
  have hW0 : s.WarmedH s'.vm := by rw [hvm]; exact State.WarmedH.refl s
  have hat' : ∀ w ∈ vx_atS own ic cls names, w.before args s' = true := fun w hw => vx_ot_at hW0 hvm.symm (hgood w (List.mem_cons_of_mem _ (List.mem_cons_of_mem _ hw))) (hat w hw)
  have hk' : (Cond.classLink own ik cls).before args s' = true := vx_ot_at hW0 hvm.symm (hgood _ List.mem_cons_self) hk
  have hini' : (Cond.initialized cls).before args s' = true := vx_ot_at hW0 hvm.symm (hgood _ (List.mem_cons_of_mem _ List.mem_cons_self)) hini
  have hU' : vx_Zq Bundle.tN "UNASSIGNED_STACK" Bundle.steD A s' s'.heap := by rw [hhp]; exact vx_Zq.moved hW0.alike (hU.kept hS.2.1)
  have hN' : vx_Zq Bundle.tN "SUPPRESSED_SENTINEL" Bundle.listD A s' s'.heap := by rw [hhp]; exact vx_Zq.moved hW0.alike (hN.kept hS.2.1)
  have h : ∀ w ∈ Bundle.ownAtoms own ic cls names, w.before args s' = true := vx_own hat' (vx_isRefq hU'.1) (vx_isRefq hN'.1) hU'.2.word hN'.2.word
  have hown' : s'.vm.findClass own = some m.cls := by rw [hvm]; exact hown
  have hins : (Cond.instantiable cls 6).before args s' = true := h _ (by simp [Bundle.ownAtoms])
  obtain ⟨vm₁, cX, kX, hfX, hkX, -, -, X₁, st1⟩ := Y.newCold hexec (own := own) (C := cls) (index := ik) (n := 6) hown' hk' hins hini'
    (g := F0 m pc ls rest) rfl (by rw [hb]; exact d0) (Nat.le_refl _) (Nat.le_refl _)
  generalize hT1 : (T.setVm vm₁).pushCell { cls := cX, slots := kX.instanceTypes.map defaultValue, vm := .none } = T1 at X₁ st1
  have hcat : (Value.ref T.heap.size).category = 1 := rfl
  have hcellA : T1.heap[T.heap.size]? = some (freshCell cX kX) := by rw [← hT1]; exact State.heap_pushCell_size _ _
  have d3' : decode c.code (pc + 3) = .ok (.dup, 1) := by rw [hb]; exact d3
  have d4' : decode c.code (pc + 4) = .ok (.ldc_w is, 3) := by rw [hb]; exact d4
  have hstr' : vk_R own is text sa s' := vk_R.warm hW0 hstr
  obtain ⟨U, hsteps, hrun, hend, hW, hsame, ce, hce, hO⟩ := X₁.ctorThrowS hexec htr (own := own) (cls := cls) (names := names) (ic := ic) hown' hcls hnames h (fun x hx => nomatch hx) hfX hkX hcellA (by rw [hhp, hT]; exact Nat.le_refl _) (msg := .ref sa) rfl
    (g := { method := m, pc := pc + 7, locals := ls, stack := .ref sa :: .ref T.heap.size :: .ref T.heap.size :: rest, locked := none }) rfl hsize rfl rfl (rest := rest) rfl
    (by rw [hb]; exact d7) (by rw [hb]; exact d10) hout hRframes (by simp only [List.map_cons, List.sum_cons, hcat]; omega) hlocks
  obtain ⟨f1, f2⟩ := vx_frame hsame
  rw [hhp] at f1 f2
  have hWs : s.WarmedH U.vm := State.WarmedH.trans hW0 hW
  have hcl : s.vm.findClass cls = some ce.cls := by
    have h9 := hO.cls
    rw [hvm] at h9
    exact h9
  have hall : s.sameButNew ({ U with vm := s.vm } : State) locs mc ms := by
    subst hA
    obtain ⟨e1, e2⟩ := hsame
    rw [State.setFrames_setFrames] at e1
    have h2 : (T.setVm s.vm).sameButNew ({ U with vm := s.vm } : State) [] (0 + 1) (0 + 6) := ⟨e1, e2⟩
    have h3 := X.same.trans h2
    rw [List.append_nil] at h3
    exact h3.mono hc hs
  refine ⟨U, ?_, .threw T.heap.size, hrun, hend, Or.inr ⟨T.heap.size, rfl, cls, ce, locs, hx U hWs.alike f1 (fun q hq => f2 q hq (fun z hz => nomatch hz)), hce, hO.vm, hcl, hWs, hall, hf⟩⟩
  refine st1 _ ?_
  show Steps p.tables e below (T1.setTop { method := m, pc := pc + 3, locals := ls, stack := .ref T.heap.size :: rest, locked := none }) _
  jvm_step X₁.here [X₁.here.top, hexec, d3', Value.category]
  exact X₁.ldcStringW hexec (own := own) (text := text) (index := is) (a := sa) hown' hstr'.1 hstr'.2
    (g := { method := m, pc := pc + 4, locals := ls, stack := .ref T.heap.size :: .ref T.heap.size :: rest, locked := none }) rfl d4' _ hsteps
end Ends
section Bodies
variable {l : Launch}
theorem vx_ofW {y : MethodName} {ws ws' : List Cond} {rm : Room} {Pc : Array Value → State → Prop} {Qc : Array Value → State → Outcome → State → Prop} {XC : String → State → State → Prop} {mc ms : Nat} {free : Addr → Prop} {cc : ByteArray} {maxL : Nat} {ret : Option FieldType}
    (hy : plainName y.cls = true) (hw : ws = Cond.code y cc maxL ret :: ws')
    (body : ∀ p e s m args below meth c s₁, BodyLoose p l y (headSpec ws rm) cc maxL ret e s m args below meth c s₁ → c.maxLocals = maxL → (∀ x ∈ c.exceptionTable.toList, False) → Pc args s →
      W p l e (headSpec ws rm).room s m args below meth c s.heap [] 0 0 (vx_MQ below Qc XC args s mc ms free) (entryFrame m args maxL)) : vx_Met l y ws rm Pc Qc XC mc ms free := by
  refine MetFree.of_bodyS (code := cc) (maxLocals := maxL) (ret := ret) hy ?_ ?_
  · intro args s m h hn
    obtain ⟨meth, c, h1, h2, h3, h4, h5, h6, -, -⟩ := Cond.code_spec hn (atoms_spec (ws := ws) h _ (by rw [hw]; exact List.mem_cons_self))
    exact ⟨meth, c, h1, h2, h3, h4, h5, h6⟩
  · intro p e s m args below meth c s₁ B hml hP _
    have hh0 : s₁.heap = s.heap := by rw [B.state]; rfl
    have ht : ∀ x ∈ c.exceptionTable.toList, False := by
      obtain ⟨meth9, c9, h1, h2, -, -, -, -, h7, -⟩ := Cond.code_spec B.named (atoms_spec (ws := ws) B.pre _ (by rw [hw]; exact List.mem_cons_self))
      cases Option.some.inj (h1.symm.trans B.method)
      cases Option.some.inj (h2.symm.trans (Stand.of_body B).code)
      intro x hx
      rw [Array.isEmpty_iff.mp h7] at hx
      cases hx
    obtain ⟨t, a1, o, b1, b2, b3⟩ := body p e s m args below meth c s₁ B hml ht hP s₁ hh0 (Stand.of_body B)
    exact ⟨t, o, a1, b1, b2, b3⟩
/-- the table of a body with handlers -/
theorem vx_table {p : Program} {x y : MethodName} {S : Spec} {cc bytes : ByteArray} {maxL maxL' : Nat} {ret ret' : Option FieldType} {e : Env} {s s₁ : State} {m : MethodId} {args : Array Value} {below : List Frame} {meth : Method} {c : Code} {hh : List (Nat × Nat × Nat × Nat)}
    (B : BodyLoose p l y S cc maxL ret e s m args below meth c s₁) (h : (Cond.codeWith y bytes maxL' ret' hh).before args s = true) : c.exceptionTable.toList = tableOf hh := by
  obtain ⟨m9, meth9, c9, hn9, h1, h2, -, -, h6, -⟩ := Cond.codeWith_spec h
  cases Option.some.inj (hn9.symm.trans B.named)
  cases Option.some.inj (h1.symm.trans B.method)
  cases Option.some.inj (h2.symm.trans (Stand.of_body B).code)
  rw [← h6, table_eq]
end Bodies
end VXA
/-! ===== END ===== -/
/-! ===== BEGIN a static call of a method with an exception table ===== -/
section VXS
variable {p : Program} {l : Launch} {e : Env} {R : Room} {s : State} {m : MethodId} {args : Array Value} {below : List Frame} {meth : Method} {c : Code} {T : State} {H : Heap} {locs : List Loc} {cells slots : Nat}
abbrev vx_CSW (R : Room) (s : State) (args : Array Value) (own : String) (index : Nat) (y : MethodName) (bytes : ByteArray) (maxL : Nat) (ret : Option FieldType) (hh : List (Nat × Nat × Nat × Nat)) (ws : List Cond) (rm : Room) (mc ms n : Nat) : Prop :=
  (rm.cells = mc ∧ rm.slots = ms ∧ rm.frames + 1 ≤ R.frames ∧ 8 + (maxL + 11) + rm.locals ≤ R.locals ∧ (∀ w ∈ ws, ∀ (a' : Array Value) (U : State), s.WarmedH U.vm → w.before a' U = true) ∧ Cond.codeWith y bytes maxL ret hh ∈ ws) ∧
  (Cond.codeWith y bytes maxL ret hh).before args s = true ∧ (Cond.initialized y.cls).before args s = true ∧ (y.cls ≠ "java/lang/invoke/MethodHandle" ∧ y.cls ≠ "java/lang/invoke/VarHandle") ∧
  (∀ sig, parseMethodDescriptor y.desc = some sig → n = sig.parameters.length) ∧ (Cond.methodLink own index y).before args s = true ∧ (Cond.static y).before args s = true
theorem vx_cwSW {own : String} {index maxL mc ms : Nat} {y : MethodName} {bytes : ByteArray} {ret : Option FieldType} {hh : List (Nat × Nat × Nat × Nat)} {Ts ws ws' : List Cond} {rm : Room} (n : Nat) (ht : ∀ w ∈ Ts, w.before args s = true) (hT : GoodIn Ts (va_wsS own index y ws)) (hw : ws = Cond.codeWith y bytes maxL ret hh :: ws') (hrc : rm.cells = mc) (hrs : rm.slots = ms)
    (hd : y.cls ≠ "java/lang/invoke/MethodHandle" ∧ y.cls ≠ "java/lang/invoke/VarHandle" ∧ (parseMethodDescriptor y.desc).map (fun d => d.parameters.length) = some n) (hR : rm.frames + 1 ≤ R.frames ∧ 8 + (maxL + 11) + rm.locals ≤ R.locals) :
    vx_CSW R s args own index y bytes maxL ret hh ws rm mc ms n := by
  have ok : ∀ w ∈ va_wsS own index y ws, w.before args s = true := fun w h => ht w (hT w h).1
  have hG : GoodIn Ts ws := fun w h => hT w (by unfold va_wsS; exact List.mem_append_right _ h)
  have hc : Cond.codeWith y bytes maxL ret hh ∈ ws := by rw [hw]; exact List.mem_cons_self
  refine ⟨⟨hrc, hrs, hR.1, hR.2, pay_in ht hG, hc⟩, ht _ (hG _ hc).1, ok _ (by simp [va_wsS]), ⟨hd.1, hd.2.1⟩, fun sig h => ?_, ok _ (by simp [va_wsS]), ok _ (by simp [va_wsS])⟩
  have h2 := hd.2.2
  rw [h] at h2
  exact (Option.some.inj h2).symm
theorem vx_callSW (X : Stand p l e R s m args below meth c T locs cells slots) (hexec : p.tables.exec = Jvm.exec) {own : String} {index : Nat} {y : MethodName} {bytes : ByteArray} {maxL : Nat} {ret : Option FieldType} {hh : List (Nat × Nat × Nat × Nat)}
    (hown : s.vm.findClass own = some m.cls) (hlink : (Cond.methodLink own index y).before args s = true) (hstat : (Cond.static y).before args s = true) (hinit : (Cond.initialized y.cls).before args s = true)
    (hcode : (Cond.codeWith y bytes maxL ret hh).before args s = true) (hy : y.cls ≠ "java/lang/invoke/MethodHandle" ∧ y.cls ≠ "java/lang/invoke/VarHandle")
    {W9 : Nat} {Pre : Pt → Array Value → Prop} {Post : Pt → Array Value → Option Value → Pt → Prop} (hK : Back l R p e below s args y 3 W9 Pre Post)
    {g : JFrame} (hg : g.method = m) (hsize : g.locals.size = c.maxLocals) {argsL rest : List Value} (hlen : ∀ sig, parseMethodDescriptor y.desc = some sig → argsL.length = sig.parameters.length)
    (hstack : g.stack = argsL.reverse ++ rest) (hW : 2 * g.monitorRoom + (rest.map fun v => v.category).sum ≤ W9) (hdg : decode c.code g.pc = .ok (.invokestatic index, 3))
    (hpre : ∀ vm₁, s.WarmedH vm₁ → Pre ⟨T.setVm vm₁, locs, cells, slots⟩ argsL.toArray) :
    ∃ (v : Option Value) (vm₁ : Vm) (B : Pt), s.WarmedH vm₁ ∧ Stand p l e R s m args below meth c B.U B.locs B.cells B.slots ∧ Post ⟨T.setVm vm₁, locs, cells, slots⟩ argsL.toArray v B ∧
      ∀ target, Steps p.tables e below (B.U.setTop { g with pc := g.pc + 3, stack := v.toList ++ rest }) target → Steps p.tables e below (T.setTop g) target := by
  obtain ⟨mk, methM, cM, hnamed, hmethM, -, -, -, -, -, -, hsigM⟩ := Cond.codeWith_spec hcode
  have hstatic : methM.isStatic = true := Cond.static_spec hnamed hmethM hstat
  obtain ⟨kP, hkP, -⟩ := className_of_methodNamed hnamed
  have hinitP : kP.init = .initialized := Cond.initialized_spec (findClass_of_methodNamed hnamed) hkP hinit
  obtain ⟨vm₁, X₁, hstep₁⟩ := X.invokestatic hexec hown hlink hnamed hmethM hstatic hkP hinitP hy (g := g) hg (argsL := argsL) (rest := rest) (hlen _ hsigM) hstack hdg
  obtain ⟨v, B, X', hpost, hsteps⟩ := hK m meth c ⟨T.setVm vm₁, locs, cells, slots⟩ { g with stack := rest } (.invokestatic index) mk argsL.toArray X₁ hg hsize hdg hW (X₁.named hnamed) (hpre vm₁ X₁.warmed)
  exact ⟨v, vm₁, B, X₁.warmed, X', hpost, fun target h => hstep₁ _ fun acts => by rw [doInvoke_state]; exact hsteps.trans h⟩
theorem vx_runSW {y : MethodName} {bytes cc : ByteArray} {maxL nL mc ms n index : Nat} {ret : Option FieldType} {hh : List (Nat × Nat × Nat × Nat)} {ws : List Cond} {rm : Room} {Pc : Array Value → State → Prop} {Qc : Array Value → State → Outcome → State → Prop} {free : Addr → Prop} {Ts : List Cond} {own : String} {As rest : List Value} {g : JFrame}
    (S : CallFix p m c cc nL s args Ts own) (hM : Met l y ws rm Pc Qc mc ms free) (cw : vx_CSW R s args own index y bytes maxL ret hh ws rm mc ms n) (hp : PreS s H Pc As)
    (hg : g.method = m) (hn : As.length = n) (hsize : g.locals.size = nL) (hstack : g.stack = As.reverse ++ rest) (hW : 2 * g.monitorRoom + (rest.map fun v => v.category).sum ≤ 8) (hdg : decode cc g.pc = .ok (.invokestatic index, 3)) (hf : cells + mc ≤ R.cells ∧ slots + ms ≤ R.slots) :
    va_Run p l e R s m args below meth c H locs cells slots mc ms g rest (Qc As.toArray) (free) := by
  obtain ⟨⟨hrc, hrs, hfr, hlo, hws, hcw⟩, hcode, hini, hy, hlen, hl, hstt⟩ := cw
  have hK : Back l R p e below s args y 3 8 (PreOf R mc ms Pc) (PostOf Qc mc ms free) := va_backW (hh := hh) (bytes := bytes) (maxL := maxL) (ret := ret) hM hp.1 hrc hrs hfr hlo hws hcw (fun a' U hW => word_at hW (Or.inl (by first | rfl | simp [Cond.onTables, Cond.keeps, Cond.steady])) hini)
  obtain ⟨hx, hb, hml, ho, -⟩ := S
  intro T hT X
  obtain ⟨v, vm₁, ⟨U', l2, c2, s2⟩, hW₁, X', ⟨g', mk, t, L, e1, e2, hq, h1, hL, h2, h3⟩, st⟩ := vx_callSW X hx (hh := hh) (bytes := bytes) (maxL := maxL) (ret := ret) ho hl hstt hini hcode hy hK hg (hsize.trans hml.symm) (argsL := As) (rest := rest) (fun sig h => hn.trans (hlen sig h)) hstack hW (by rw [hb]; exact hdg)
    (fun vm₁ hW₁ => ⟨hf.1, hf.2, hp.2 (T.setVm vm₁) hT hW₁⟩)
  dsimp only [Pt.U, Pt.locs, Pt.cells, Pt.slots] at X' e1 e2 h1 h2 h3 st
  subst h1; subst h2; subst h3
  exact ⟨v, (T.setVm vm₁).calling g' mk As.toArray, t, U', L, hT, X', hL, e1, e2, hq, st⟩
/-- not caught here, past rows that name other classes: it goes on to the caller -/
theorem vx_outP {p : Program} {l : Launch} {e : Env} {R : Room} {s : State} {m : MethodId} {args : Array Value} {below : List Frame} {meth : Method} {c : Code} {H : Heap} {locs : List Loc} {cells slots : Nat} {free : Addr → Prop} {ls : Array Slot} {rest : List Value} {Qc : Array Value → State → Outcome → State → Prop} {XC : String → State → State → Prop}
    {pc : Nat} {own E : String} {ce : Cell} {q : Addr} {mc ms : Nat} (hown : s.vm.findClass own = some m.cls) (hlocks : meth.locks = false)
    (hpass : ∀ z ∈ c.exceptionTable.toList, covers z pc = false ∨ (z.catchType ≠ 0 ∧ ∃ nm : String, (Cond.classLink own z.catchType nm).before args s = true ∧ va_Nc E nm s)) (hcell : H[q]? = some ce) (hv : ce.vm = .none) (hcl : s.vm.findClass E = some ce.cls)
    (hx : ∀ t : State, t.heap = H → s.vm.Alike t.vm → XC E s t) (hf : ∀ z ∈ locs, free z.base) (hc : cells ≤ mc) (hs : slots ≤ ms) :
    vx_W p l e R s m args below meth c H locs cells slots (vx_MQ below Qc XC args s mc ms free) (F0 m pc ls rest) q := by
  intro T hT X
  have hpl : e.platform.magicAccessors = ({} : Platform).magicAccessors := by rw [X.admits.platform]
  obtain ⟨vm', hW', X', st⟩ := X.outThrough hlocks q (g := F0 m pc ls rest) rfl rfl rfl (cell := ce) (by rw [hT]; exact hcell) (by rw [hv]; rfl)
    (by obtain ⟨k9, h9, -⟩ := Vm.findClass_spec hcl; exact ⟨k9, h9⟩) (fun z hz => by
      rcases hpass z hz with h | ⟨hz0, nm, hl1, hn1⟩
      · exact Or.inl h
      · obtain ⟨c6, hc6, hcl6⟩ := Cond.classLink_spec hown hl1 e.platform hpl
        obtain ⟨a8, b8, h1, h2, h3⟩ := hn1
        cases Option.some.inj (h1.symm.trans hcl)
        cases Option.some.inj (h2.symm.trans hc6)
        exact Or.inr ⟨hz0, _, hcl6, h3⟩)
  obtain ⟨g₀, hfr⟩ := X'.frames_eq
  have hcell9 : ((T.setVm vm').setFrames (.throwing q :: below)).heap[q]? = some ce := by
    show T.heap[q]? = some ce
    rw [hT]; exact hcell
  have hend : Ended ((T.setVm vm').setFrames (.throwing q :: below)) below (.threw q) := State.frames_setFrames _ (State.cur_lt_of_frames hfr)
  refine ⟨(T.setVm vm').setFrames (.throwing q :: below), ?_, .threw q, X'.here.running, hend, Or.inr ⟨q, rfl, E, ce, locs, hx _ hT (X'.ends _).1.alike, hcell9, hv, hcl, (X'.ends _).1, (X'.ends _).2.mono hc hs, hf⟩⟩
  rw [X.pushThrowing_eq]
  exact st
/-- a thing of a world lies in the heap -/
theorem vx_lt {D : va_G} {cl : List vw_C} {ws : va_W} {H1 : Heap} (h : va_P D cl ws H1) {k : Nat} {q : Nat × va_E} (hk : ws[k]? = some q) : q.1 < H1.size := (h k q hk).lt
end VXS
/-! ===== END ===== -/
/-! ===== BEGIN methods with a table of their own: called by a name, returning or throwing ===== -/
section VXH
/-! vx_backW, vx_callVX, vx_callSX, vx_callVW, vx_runVW, vx_runVX, vx_runSX, vx_ofWH follow the same proofs as their sisters above (Free/Laws.lean, Shelf42/LK1.lean); vx_outP calls Shelf42/NT130.lean (outThrough). -/
section
variable {l : Launch} {R : Room} {p : Program} {e : Env} {below : List Frame} {s : State} {sargs : Array Value} {y : MethodName} {len W9 : Nat}
theorem vx_backW {ws : List Cond} {rm : Room} {Pc : Array Value → State → Prop} {Qc : Array Value → State → Outcome → State → Prop} {XC : String → State → State → Prop} {mc ms : Nat} {free : Addr → Prop} {bytes : ByteArray} {maxL : Nat} {ret : Option FieldType} {hh : List (Nat × Nat × Nat × Nat)}
    (hM : vx_Met l y ws rm Pc Qc XC mc ms free) (hblind : FrameBlind Pc) (hrc : rm.cells = mc) (hrs : rm.slots = ms)
    (hframes : rm.frames + 1 ≤ R.frames) (hlocals : W9 + (maxL + 11) + rm.locals ≤ R.locals)
    (hws : ∀ w ∈ ws, ∀ a' U, s.WarmedH U.vm → w.before a' U = true) (hcode : Cond.codeWith y bytes maxL ret hh ∈ ws) (hinit : ∀ a' U, s.WarmedH U.vm → (Cond.initialized y.cls).before a' U = true) :
    vx_Back l R p e below s sargs y len W9 (PreOf R mc ms Pc) (PostOf Qc mc ms free) (vx_Post XC mc ms free) := by
  intro m meth c A g ig mk a X hg hsize hdg hW hn hp
  have h1 : (headSpec ws rm).pre.before a A.U = true := atoms_intro fun w hw => hws w hw _ _ X.warmed
  have h2 : (Cond.codeWith y bytes maxL ret hh).before a A.U = true := hws _ hcode _ _ X.warmed
  have h3 : (Cond.initialized y.cls).before a A.U = true := hinit _ _ X.warmed
  have h4 : A.cells + (headSpec ws rm).room.cells ≤ R.cells := by rw [show (headSpec ws rm).room.cells = mc from hrc]; exact hp.1
  have h5 : A.slots + (headSpec ws rm).room.slots ≤ R.slots := by rw [show (headSpec ws rm).room.slots = ms from hrs]; exact hp.2.1
  have hPc : Pc a (A.U.calling g mk a) := hblind _ _ _ _ hp.2.2
  obtain ⟨U, Ls, c0, s0⟩ := A
  dsimp only [Pt.U, Pt.locs, Pt.cells, Pt.slots] at h1 h2 h3 h4 h5 X hn hPc ⊢
  obtain ⟨m9, methY, cY, hn9, hmY, hcY, -, hlY, -⟩ := Cond.codeWith_spec h2
  cases Option.some.inj (hn9.symm.trans hn)
  obtain ⟨kY, hkY, -⟩ := className_of_methodNamed hn
  have hinitY : kY.init = .initialized := Cond.initialized_spec (findClass_of_methodNamed hn) hkY h3
  have h : At U g.method c below := by rw [hg]; exact X.here
  have hlocals9 : W9 + (maxL + 11) + (headSpec ws rm).room.locals ≤ R.locals := hlocals
  have happ : (headSpec ws rm).appliesLoose y e.platform (U.calling g mk a) = true :=
    Spec.appliesLoose_calling (g := g) h hdg hn hkY hinitY
      (X.room_calling (g := g) (R' := (headSpec ws rm).room) hsize hmY hcY hframes (by rw [hlY]; omega) h4 h5) h1
  obtain ⟨mid, hmid⟩ := h.above
  have hfr : (U.setTop g).frames = (.java g :: mid) ++ below := by rw [State.frames_setTop' g h.top, hmid]; rfl
  obtain ⟨o, s₂, hsteps, -, hend, hq⟩ := Steps.callFree hM p X.admits X.cas X.clock (acts := []) hfr happ hPc trivial
  have hq' : vx_Q Qc XC mc ms free a (U.calling g mk a) o s₂ := hq
  rw [State.frames_setTop' g h.top] at hend
  obtain ⟨g₀, hg0⟩ := Option.isSome_iff_exists.mp h.top
  obtain ⟨r, hr⟩ := State.topJava?_eq_some.mp hg0
  have hr' : (({ U with heap := s₂.heap, slotsUsed := s₂.slotsUsed } : State).setVm s₂.vm).frames = .java g₀ :: r := hr
  rcases hq' with ⟨hqc, L, hfe, hL⟩ | ⟨q, rfl, E, ce, L, hx, hce, hcv, hcl, hW₂, hsm, hL⟩
  · obtain ⟨⟨v, rfl⟩, hW₂, e2, q2, q3, q4, q5, q6⟩ := id hfe
    have e3 : s₂ = ({ (U.calling g mk a).setFrames s₂.frames with heap := s₂.heap, slotsUsed := s₂.slotsUsed } : State).setVm s₂.vm := by
      have : s₂ = ({ s₂ with vm := (U.calling g mk a).vm } : State).setVm s₂.vm := rfl
      rw [e2] at this
      exact this
    obtain ⟨c₂, i₂, len₂, hc₂, hd₂, hf₂⟩ := hend
    have hW' : U.WarmedH s₂.vm := hW₂
    have hcc : c₂ = c := by
      have h1 : s₂.code? g.method = U.code? g.method := by
        rw [State.code?_eq, State.code?_eq, hW'.alike.method?]
      exact Option.some.inj (hc₂.symm.trans (h1.trans h.code))
    subst hcc
    have hlen : len₂ = len := by rw [hdg] at hd₂; cases hd₂; rfl
    subst hlen
    have hs₂ : s₂ = (({ U with heap := s₂.heap, slotsUsed := s₂.slotsUsed } : State).setVm s₂.vm).setTop { g with pc := g.pc + len₂, stack := v.toList ++ g.stack } := by
      refine e3.trans ?_
      rw [hf₂, State.calling_eq h.top, State.setFrames_setFrames, State.setTop_of_frames _ hr', hr]
      rfl
    have hsame : U.sameButNew ({ U with heap := s₂.heap, slotsUsed := s₂.slotsUsed } : State) L mc ms := by
      refine ⟨?_, q2, q3, q4, q5, q6⟩
      obtain ⟨t, ht, -⟩ := State.frames_cons hr
      show ({ U with heap := s₂.heap, slotsUsed := s₂.slotsUsed } : State) = { U.setFrames U.frames with heap := s₂.heap, slotsUsed := s₂.slotsUsed }
      rw [State.setFrames_self ht]
    subst hg
    refine Or.inl ⟨v, ⟨(({ U with heap := s₂.heap, slotsUsed := s₂.slotsUsed } : State).setVm s₂.vm), Ls ++ L, c0 + mc, s0 + ms⟩,
      ⟨X.admits, X.cas, X.clock, X.frames, X.room, X.hears, X.method, X.code, (X.here.setHeapUsed s₂.heap s₂.slotsUsed).setVm hW'.alike, X.tail, State.WarmedH.trans X.warmed hW', X.limits, X.bytes, X.same.trans (hsame.setVm s.vm)⟩,
      ⟨g, mk, s₂, L, rfl, rfl, hqc, rfl, hL, rfl, rfl⟩, ?_⟩
    show Steps p.tables e below _ ((({ U with heap := s₂.heap, slotsUsed := s₂.slotsUsed } : State).setVm s₂.vm).setTop { g with pc := g.pc + len₂, stack := v.toList ++ g.stack })
    rw [← hs₂]
    exact hsteps
  · obtain ⟨e2, q2, q3, q4, q5, q6⟩ := id hsm
    have e3 : s₂ = ({ (U.calling g mk a).setFrames s₂.frames with heap := s₂.heap, slotsUsed := s₂.slotsUsed } : State).setVm s₂.vm := by
      have : s₂ = ({ s₂ with vm := (U.calling g mk a).vm } : State).setVm s₂.vm := rfl
      rw [e2] at this
      exact this
    have hf₂ : s₂.frames = .throwing q :: .java g :: U.frames.tail := hend
    have hW' : U.WarmedH s₂.vm := hW₂
    have hs₂ : s₂ = ((({ U with heap := s₂.heap, slotsUsed := s₂.slotsUsed } : State).setVm s₂.vm).setTop g).pushFrame (.throwing q) := by
      refine e3.trans ?_
      rw [hf₂, State.calling_eq h.top, State.setFrames_setFrames, State.pushFrame, State.frames_setTop _ hr', State.setTop_of_frames _ hr', State.setFrames_setFrames, hr]
      rfl
    have hsame : U.sameButNew ({ U with heap := s₂.heap, slotsUsed := s₂.slotsUsed } : State) L mc ms := by
      refine ⟨?_, q2, q3, q4, q5, q6⟩
      obtain ⟨t, ht, -⟩ := State.frames_cons hr
      show ({ U with heap := s₂.heap, slotsUsed := s₂.slotsUsed } : State) = { U.setFrames U.frames with heap := s₂.heap, slotsUsed := s₂.slotsUsed }
      rw [State.setFrames_self ht]
    subst hg
    refine Or.inr ⟨q, ⟨(({ U with heap := s₂.heap, slotsUsed := s₂.slotsUsed } : State).setVm s₂.vm), Ls ++ L, c0 + mc, s0 + ms⟩,
      ⟨X.admits, X.cas, X.clock, X.frames, X.room, X.hears, X.method, X.code, (X.here.setHeapUsed s₂.heap s₂.slotsUsed).setVm hW'.alike, X.tail, State.WarmedH.trans X.warmed hW', X.limits, X.bytes, X.same.trans (hsame.setVm s.vm)⟩,
      ⟨g, mk, s₂, L, E, ce, rfl, rfl, hx, hce, hcv, hcl, rfl, hL, rfl, rfl⟩, ?_⟩
    show Steps p.tables e below _ (((({ U with heap := s₂.heap, slotsUsed := s₂.slotsUsed } : State).setVm s₂.vm).setTop g).pushFrame (.throwing q))
    rw [← hs₂]
    exact hsteps
end
variable {p : Program} {l : Launch} {e : Env} {R : Room} {s : State} {m : MethodId} {args : Array Value} {below : List Frame} {meth : Method} {c : Code} {T : State} {H : Heap} {locs : List Loc} {cells slots : Nat}
theorem vx_callVX (X : Stand p l e R s m args below meth c T locs cells slots) (hexec : p.tables.exec = Jvm.exec) {own C : String} {index : Nat} {y : MethodName} {bytes : ByteArray} {maxL : Nat} {ret : Option FieldType} {hh : List (Nat × Nat × Nat × Nat)}
    (hown : s.vm.findClass own = some m.cls) (hlink : (Cond.methodLink own index y).before args s = true) (hinst : (Cond.instanceMethod y).before args s = true) (hsel : (Cond.selects C y y).before args s = true)
    (hcode : (Cond.codeWith y bytes maxL ret hh).before args s = true) (hy : y.cls ≠ "java/lang/invoke/MethodHandle" ∧ y.cls ≠ "java/lang/invoke/VarHandle")
    {W9 : Nat} {Pre : Pt → Array Value → Prop} {Post : Pt → Array Value → Option Value → Pt → Prop} {PostX : Pt → Array Value → Addr → Pt → Prop} (hK : vx_Back l R p e below s args y 3 W9 Pre Post PostX)
    {b : Addr} {cellB : Cell} (hcell : T.heap[b]? = some cellB) (hobj : cellB.vm.isStatics = false) (hcls : s.vm.findClass C = some cellB.cls)
    {g : JFrame} (hg : g.method = m) (hsize : g.locals.size = c.maxLocals) {argsL rest : List Value} (hlen : ∀ sig, parseMethodDescriptor y.desc = some sig → argsL.length = sig.parameters.length)
    (hstack : g.stack = argsL.reverse ++ .ref b :: rest) (hW : 2 * g.monitorRoom + (rest.map fun v => v.category).sum ≤ W9) (hdg : decode c.code g.pc = .ok (.invokevirtual index, 3))
    (hpre : ∀ vm₁, s.WarmedH vm₁ → Pre ⟨T.setVm vm₁, locs, cells, slots⟩ (Value.ref b :: argsL).toArray) :
    (∃ (v : Option Value) (vm₁ : Vm) (B : Pt), s.WarmedH vm₁ ∧ Stand p l e R s m args below meth c B.U B.locs B.cells B.slots ∧ Post ⟨T.setVm vm₁, locs, cells, slots⟩ (Value.ref b :: argsL).toArray v B ∧
      ∀ target, Steps p.tables e below (B.U.setTop { g with pc := g.pc + 3, stack := v.toList ++ rest }) target → Steps p.tables e below (T.setTop g) target) ∨
    (∃ (q : Addr) (vm₁ : Vm) (B : Pt), s.WarmedH vm₁ ∧ Stand p l e R s m args below meth c B.U B.locs B.cells B.slots ∧ PostX ⟨T.setVm vm₁, locs, cells, slots⟩ (Value.ref b :: argsL).toArray q B ∧
      Steps p.tables e below (T.setTop g) ((B.U.setTop { g with stack := rest }).pushFrame (.throwing q))) := by
  obtain ⟨mk, methM, hnamed, hmethM, hstM, habM⟩ := Cond.instanceMethod_spec hinst
  obtain ⟨m8, methM', cM, hn8, hmethM', -, -, -, -, -, -, hsigM⟩ := Cond.codeWith_spec hcode
  cases Option.some.inj (hn8.symm.trans hnamed)
  cases hmethM.symm.trans hmethM'
  obtain ⟨c2, r2, m2, q1, q2, q3, q4, kP, hkP, hkPi⟩ := Cond.selects_spec hsel
  cases hcls.symm.trans q1
  cases (State.methodFound?_of_named hnamed hy).symm.trans q2
  cases hnamed.symm.trans q3
  have hselP : selectMethod e.platform s.vm cellB.cls mk = .method mk := by rw [Launch.admits_selectMethod X.admits]; exact q4
  obtain ⟨vm₁, X₁, hstep₁⟩ := X.invokevirtual hexec hown hlink hnamed hmethM hstM hkP hkPi hy (a := b) (cell := cellB) hcell
    (fun z h => by rw [h] at hobj; cases hobj) hselP hmethM habM hkP hkPi (g := g) hg (argsL := argsL) (rest := rest) (hlen _ hsigM) hstack hdg
  rcases hK m meth c ⟨T.setVm vm₁, locs, cells, slots⟩ { g with stack := rest } (.invokevirtual index) mk (Value.ref b :: argsL).toArray X₁ hg hsize hdg hW (X₁.named hnamed) (hpre vm₁ X₁.warmed) with ⟨v, B, X', hpost, hsteps⟩ | ⟨q, B, X', hpost, hsteps⟩
  · exact Or.inl ⟨v, vm₁, B, X₁.warmed, X', hpost, fun target h => hstep₁ _ fun acts => by rw [doInvoke_state]; exact hsteps.trans h⟩
  · exact Or.inr ⟨q, vm₁, B, X₁.warmed, X', hpost, hstep₁ _ fun acts => by rw [doInvoke_state]; exact hsteps⟩
theorem vx_callSX (X : Stand p l e R s m args below meth c T locs cells slots) (hexec : p.tables.exec = Jvm.exec) {own : String} {index : Nat} {y : MethodName} {bytes : ByteArray} {maxL : Nat} {ret : Option FieldType} {hh : List (Nat × Nat × Nat × Nat)}
    (hown : s.vm.findClass own = some m.cls) (hlink : (Cond.methodLink own index y).before args s = true) (hstat : (Cond.static y).before args s = true) (hinit : (Cond.initialized y.cls).before args s = true)
    (hcode : (Cond.codeWith y bytes maxL ret hh).before args s = true) (hy : y.cls ≠ "java/lang/invoke/MethodHandle" ∧ y.cls ≠ "java/lang/invoke/VarHandle")
    {W9 : Nat} {Pre : Pt → Array Value → Prop} {Post : Pt → Array Value → Option Value → Pt → Prop} {PostX : Pt → Array Value → Addr → Pt → Prop} (hK : vx_Back l R p e below s args y 3 W9 Pre Post PostX)
    {g : JFrame} (hg : g.method = m) (hsize : g.locals.size = c.maxLocals) {argsL rest : List Value} (hlen : ∀ sig, parseMethodDescriptor y.desc = some sig → argsL.length = sig.parameters.length)
    (hstack : g.stack = argsL.reverse ++ rest) (hW : 2 * g.monitorRoom + (rest.map fun v => v.category).sum ≤ W9) (hdg : decode c.code g.pc = .ok (.invokestatic index, 3))
    (hpre : ∀ vm₁, s.WarmedH vm₁ → Pre ⟨T.setVm vm₁, locs, cells, slots⟩ argsL.toArray) :
    (∃ (v : Option Value) (vm₁ : Vm) (B : Pt), s.WarmedH vm₁ ∧ Stand p l e R s m args below meth c B.U B.locs B.cells B.slots ∧ Post ⟨T.setVm vm₁, locs, cells, slots⟩ argsL.toArray v B ∧
      ∀ target, Steps p.tables e below (B.U.setTop { g with pc := g.pc + 3, stack := v.toList ++ rest }) target → Steps p.tables e below (T.setTop g) target) ∨
    (∃ (q : Addr) (vm₁ : Vm) (B : Pt), s.WarmedH vm₁ ∧ Stand p l e R s m args below meth c B.U B.locs B.cells B.slots ∧ PostX ⟨T.setVm vm₁, locs, cells, slots⟩ argsL.toArray q B ∧
      Steps p.tables e below (T.setTop g) ((B.U.setTop { g with stack := rest }).pushFrame (.throwing q))) := by
  obtain ⟨mk, methM, cM, hnamed, hmethM, -, -, -, -, -, -, hsigM⟩ := Cond.codeWith_spec hcode
  have hstatic : methM.isStatic = true := Cond.static_spec hnamed hmethM hstat
  obtain ⟨kP, hkP, -⟩ := className_of_methodNamed hnamed
  have hinitP : kP.init = .initialized := Cond.initialized_spec (findClass_of_methodNamed hnamed) hkP hinit
  obtain ⟨vm₁, X₁, hstep₁⟩ := X.invokestatic hexec hown hlink hnamed hmethM hstatic hkP hinitP hy (g := g) hg (argsL := argsL) (rest := rest) (hlen _ hsigM) hstack hdg
  rcases hK m meth c ⟨T.setVm vm₁, locs, cells, slots⟩ { g with stack := rest } (.invokestatic index) mk argsL.toArray X₁ hg hsize hdg hW (X₁.named hnamed) (hpre vm₁ X₁.warmed) with ⟨v, B, X', hpost, hsteps⟩ | ⟨q, B, X', hpost, hsteps⟩
  · exact Or.inl ⟨v, vm₁, B, X₁.warmed, X', hpost, fun target h => hstep₁ _ fun acts => by rw [doInvoke_state]; exact hsteps.trans h⟩
  · exact Or.inr ⟨q, vm₁, B, X₁.warmed, X', hpost, hstep₁ _ fun acts => by rw [doInvoke_state]; exact hsteps⟩
theorem vx_callVW (X : Stand p l e R s m args below meth c T locs cells slots) (hexec : p.tables.exec = Jvm.exec) {own C : String} {index : Nat} {y : MethodName} {bytes : ByteArray} {maxL : Nat} {ret : Option FieldType} {hh : List (Nat × Nat × Nat × Nat)}
    (hown : s.vm.findClass own = some m.cls) (hlink : (Cond.methodLink own index y).before args s = true) (hinst : (Cond.instanceMethod y).before args s = true) (hsel : (Cond.selects C y y).before args s = true)
    (hcode : (Cond.codeWith y bytes maxL ret hh).before args s = true) (hy : y.cls ≠ "java/lang/invoke/MethodHandle" ∧ y.cls ≠ "java/lang/invoke/VarHandle")
    {W9 : Nat} {Pre : Pt → Array Value → Prop} {Post : Pt → Array Value → Option Value → Pt → Prop} (hK : Back l R p e below s args y 3 W9 Pre Post)
    {b : Addr} {cellB : Cell} (hcell : T.heap[b]? = some cellB) (hobj : cellB.vm.isStatics = false) (hcls : s.vm.findClass C = some cellB.cls)
    {g : JFrame} (hg : g.method = m) (hsize : g.locals.size = c.maxLocals) {argsL rest : List Value} (hlen : ∀ sig, parseMethodDescriptor y.desc = some sig → argsL.length = sig.parameters.length)
    (hstack : g.stack = argsL.reverse ++ .ref b :: rest) (hW : 2 * g.monitorRoom + (rest.map fun v => v.category).sum ≤ W9) (hdg : decode c.code g.pc = .ok (.invokevirtual index, 3))
    (hpre : ∀ vm₁, s.WarmedH vm₁ → Pre ⟨T.setVm vm₁, locs, cells, slots⟩ (Value.ref b :: argsL).toArray) :
    ∃ (v : Option Value) (vm₁ : Vm) (B : Pt), s.WarmedH vm₁ ∧ Stand p l e R s m args below meth c B.U B.locs B.cells B.slots ∧ Post ⟨T.setVm vm₁, locs, cells, slots⟩ (Value.ref b :: argsL).toArray v B ∧
      ∀ target, Steps p.tables e below (B.U.setTop { g with pc := g.pc + 3, stack := v.toList ++ rest }) target → Steps p.tables e below (T.setTop g) target := by
  obtain ⟨mk, methM, hnamed, hmethM, hstM, habM⟩ := Cond.instanceMethod_spec hinst
  obtain ⟨m8, methM', cM, hn8, hmethM', -, -, -, -, -, -, hsigM⟩ := Cond.codeWith_spec hcode
  cases Option.some.inj (hn8.symm.trans hnamed)
  cases hmethM.symm.trans hmethM'
  obtain ⟨c2, r2, m2, q1, q2, q3, q4, kP, hkP, hkPi⟩ := Cond.selects_spec hsel
  cases hcls.symm.trans q1
  cases (State.methodFound?_of_named hnamed hy).symm.trans q2
  cases hnamed.symm.trans q3
  have hselP : selectMethod e.platform s.vm cellB.cls mk = .method mk := by rw [Launch.admits_selectMethod X.admits]; exact q4
  obtain ⟨vm₁, X₁, hstep₁⟩ := X.invokevirtual hexec hown hlink hnamed hmethM hstM hkP hkPi hy (a := b) (cell := cellB) hcell
    (fun z h => by rw [h] at hobj; cases hobj) hselP hmethM habM hkP hkPi (g := g) hg (argsL := argsL) (rest := rest) (hlen _ hsigM) hstack hdg
  obtain ⟨v, B, X', hpost, hsteps⟩ := hK m meth c ⟨T.setVm vm₁, locs, cells, slots⟩ { g with stack := rest } (.invokevirtual index) mk (Value.ref b :: argsL).toArray X₁ hg hsize hdg hW (X₁.named hnamed) (hpre vm₁ X₁.warmed)
  exact ⟨v, vm₁, B, X₁.warmed, X', hpost, fun target h => hstep₁ _ fun acts => by rw [doInvoke_state]; exact hsteps.trans h⟩
abbrev vx_CVW (R : Room) (s : State) (args : Array Value) (own C : String) (index : Nat) (y : MethodName) (bytes : ByteArray) (maxL : Nat) (ret : Option FieldType) (hh : List (Nat × Nat × Nat × Nat)) (ws : List Cond) (rm : Room) (mc ms n : Nat) : Prop :=
  (rm.cells = mc ∧ rm.slots = ms ∧ rm.frames + 1 ≤ R.frames ∧ 8 + (maxL + 11) + rm.locals ≤ R.locals ∧ (∀ w ∈ ws, ∀ (a' : Array Value) (U : State), s.WarmedH U.vm → w.before a' U = true) ∧ Cond.codeWith y bytes maxL ret hh ∈ ws) ∧
  (Cond.codeWith y bytes maxL ret hh).before args s = true ∧ (Cond.initialized y.cls).before args s = true ∧ (y.cls ≠ "java/lang/invoke/MethodHandle" ∧ y.cls ≠ "java/lang/invoke/VarHandle") ∧
  (∀ sig, parseMethodDescriptor y.desc = some sig → n = sig.parameters.length) ∧ (Cond.methodLink own index y).before args s = true ∧ (Cond.instanceMethod y).before args s = true ∧ (Cond.selects C y y).before args s = true
theorem vx_cwVW {own C : String} {index maxL mc ms : Nat} {y : MethodName} {bytes : ByteArray} {ret : Option FieldType} {hh : List (Nat × Nat × Nat × Nat)} {Ts ws ws' : List Cond} {rm : Room} (n : Nat) (ht : ∀ w ∈ Ts, w.before args s = true) (hT : GoodIn Ts (wsV own index C y ws)) (hw : ws = Cond.codeWith y bytes maxL ret hh :: ws') (hrc : rm.cells = mc) (hrs : rm.slots = ms)
    (hd : y.cls = C ∧ y.cls ≠ "java/lang/invoke/MethodHandle" ∧ y.cls ≠ "java/lang/invoke/VarHandle" ∧ (parseMethodDescriptor y.desc).map (fun d => d.parameters.length) = some n) (hR : rm.frames + 1 ≤ R.frames ∧ 8 + (maxL + 11) + rm.locals ≤ R.locals) :
    vx_CVW R s args own C index y bytes maxL ret hh ws rm mc ms n := by
  obtain ⟨hC, hd⟩ := hd
  subst hC
  have ok : ∀ w ∈ wsV own index y.cls y ws, w.before args s = true := fun w h => ht w (hT w h).1
  have hG : GoodIn Ts ws := fun w h => hT w (by unfold wsV; exact List.mem_append_right _ h)
  have hc : Cond.codeWith y bytes maxL ret hh ∈ ws := by rw [hw]; exact List.mem_cons_self
  refine ⟨⟨hrc, hrs, hR.1, hR.2, pay_in ht hG, hc⟩, ht _ (hG _ hc).1, ok _ (by simp [wsV]), ⟨hd.1, hd.2.1⟩, fun sig h => ?_, ok _ (by simp [wsV]), ok _ (by simp [wsV]), ok _ (by simp [wsV])⟩
  have h2 := hd.2.2
  rw [h] at h2
  exact (Option.some.inj h2).symm
theorem vx_runVW {y : MethodName} {bytes cc : ByteArray} {maxL nL mc ms n index : Nat} {ret : Option FieldType} {hh : List (Nat × Nat × Nat × Nat)} {ws : List Cond} {rm : Room} {Pc : Array Value → State → Prop} {Qc : Array Value → State → Outcome → State → Prop} {free : Addr → Prop} {Ts : List Cond} {own C : String} {b : Addr} {As rest : List Value} {g : JFrame}
    (S : CallFix p m c cc nL s args Ts own) (hM : Met l y ws rm Pc Qc mc ms free) (cw : vx_CVW R s args own C index y bytes maxL ret hh ws rm mc ms n) (hp : PreV s H C b Pc As)
    (hg : g.method = m) (hn : As.length = n) (hsize : g.locals.size = nL) (hstack : g.stack = As.reverse ++ .ref b :: rest) (hW : 2 * g.monitorRoom + (rest.map fun v => v.category).sum ≤ 8) (hdg : decode cc g.pc = .ok (.invokevirtual index, 3)) (hf : cells + mc ≤ R.cells ∧ slots + ms ≤ R.slots) :
    va_Run p l e R s m args below meth c H locs cells slots mc ms g rest (Qc (Value.ref b :: As).toArray) free := by
  obtain ⟨⟨hrc, hrs, hfr, hlo, hws, hcw⟩, hcode, hini, hy, hlen, hl, hin, hse⟩ := cw
  have hK : Back l R p e below s args y 3 8 (PreOf R mc ms Pc) (PostOf Qc mc ms free) := va_backW (hh := hh) (bytes := bytes) (maxL := maxL) (ret := ret) hM hp.1 hrc hrs hfr hlo hws hcw (fun a' U hW => word_at hW (Or.inl (by first | rfl | simp [Cond.onTables, Cond.keeps, Cond.steady])) hini)
  obtain ⟨hx, hb, hml, ho, -⟩ := S
  obtain ⟨-, ⟨cellB, hcB, hoB, hclB⟩, hPc⟩ := hp
  intro T hT X
  obtain ⟨v, vm₁, ⟨U', l2, c2, s2⟩, hW₁, X', ⟨g', mk, t, L, e1, e2, hq, h1, hL, h2, h3⟩, st⟩ := vx_callVW X hx (C := C) (hh := hh) (bytes := bytes) (maxL := maxL) (ret := ret) ho hl hin hse hcode hy hK (by rw [hT]; exact hcB) hoB hclB hg (hsize.trans hml.symm) (argsL := As) (rest := rest) (fun sig h => hn.trans (hlen sig h)) hstack hW (by rw [hb]; exact hdg)
    (fun vm₁ hW₁ => ⟨hf.1, hf.2, hPc (T.setVm vm₁) hT hW₁⟩)
  dsimp only [Pt.U, Pt.locs, Pt.cells, Pt.slots] at X' e1 e2 h1 h2 h3 st
  subst h1; subst h2; subst h3
  exact ⟨v, (T.setVm vm₁).calling g' mk (Value.ref b :: As).toArray, t, U', L, hT, X', hL, e1, e2, hq, st⟩
section
variable {y : MethodName} {bytes cc : ByteArray} {maxL nL mc ms n index : Nat} {ret : Option FieldType} {ws : List Cond} {rm : Room} {Pc : Array Value → State → Prop} {Qc : Array Value → State → Outcome → State → Prop} {XC : String → State → State → Prop} {free : Addr → Prop} {Ts : List Cond} {own C : String} {b : Addr} {As rest : List Value} {g : JFrame}
theorem vx_runVX {hh : List (Nat × Nat × Nat × Nat)} (S : CallFix p m c cc nL s args Ts own) (hM : vx_Met l y ws rm Pc Qc XC mc ms free) (cw : vx_CVW R s args own C index y bytes maxL ret hh ws rm mc ms n) (hp : PreV s H C b Pc As)
    (hg : g.method = m) (hn : As.length = n) (hsize : g.locals.size = nL) (hstack : g.stack = As.reverse ++ .ref b :: rest) (hW : 2 * g.monitorRoom + (rest.map fun v => v.category).sum ≤ 8) (hdg : decode cc g.pc = .ok (.invokevirtual index, 3)) (hf : cells + mc ≤ R.cells ∧ slots + ms ≤ R.slots) :
    vx_Run p l e R s m args below meth c H locs cells slots mc ms g rest (Qc (Value.ref b :: As).toArray) XC free := by
  obtain ⟨⟨hrc, hrs, hfr, hlo, hws, hcw⟩, hcode, hini, hy, hlen, hl, hin, hse⟩ := cw
  have hK : vx_Back l R p e below s args y 3 8 (PreOf R mc ms Pc) (PostOf Qc mc ms free) (vx_Post XC mc ms free) := vx_backW (hh := hh) (bytes := bytes) (maxL := maxL) (ret := ret) hM hp.1 hrc hrs hfr hlo hws hcw (fun a' U hW => word_at hW (Or.inl (by first | rfl | simp [Cond.onTables, Cond.keeps, Cond.steady])) hini)
  obtain ⟨hx, hb, hml, ho, -⟩ := S
  obtain ⟨-, ⟨cellB, hcB, hoB, hclB⟩, hPc⟩ := hp
  intro T hT X
  rcases vx_callVX X hx (C := C) (hh := hh) (bytes := bytes) (maxL := maxL) (ret := ret) ho hl hin hse hcode hy hK (by rw [hT]; exact hcB) hoB hclB hg (hsize.trans hml.symm) (argsL := As) (rest := rest) (fun sig h => hn.trans (hlen sig h)) hstack hW (by rw [hb]; exact hdg)
    (fun vm₁ hW₁ => ⟨hf.1, hf.2, hPc (T.setVm vm₁) hT hW₁⟩) with ⟨v, vm₁, ⟨U', l2, c2, s2⟩, hW₁, X', ⟨g', mk, t, L, e1, e2, hq, h1, hL, h2, h3⟩, st⟩ | ⟨q, vm₁, ⟨U', l2, c2, s2⟩, hW₁, X', ⟨g', mk, t, L, E, ce, e1, e2, hq, hce, hcv, hcl, h1, hL, h2, h3⟩, st⟩
  · dsimp only [Pt.U, Pt.locs, Pt.cells, Pt.slots] at X' e1 e2 h1 h2 h3 st
    subst h1; subst h2; subst h3
    exact Or.inl ⟨v, (T.setVm vm₁).calling g' mk (Value.ref b :: As).toArray, t, U', L, hT, X', hL, e1, e2, hq, st⟩
  · dsimp only [Pt.U, Pt.locs, Pt.cells, Pt.slots] at X' e1 e2 h1 h2 h3 st hcl
    subst h1; subst h2; subst h3
    exact Or.inr ⟨q, (T.setVm vm₁).calling g' mk (Value.ref b :: As).toArray, t, U', L, E, ce, hT, X', hL, e1, e2, hq, hce, hcv, vx_cls hW₁ hcl, st⟩
theorem vx_runSX {hh : List (Nat × Nat × Nat × Nat)} (S : CallFix p m c cc nL s args Ts own) (hM : vx_Met l y ws rm Pc Qc XC mc ms free) (cw : vx_CSW R s args own index y bytes maxL ret hh ws rm mc ms n) (hp : PreS s H Pc As)
    (hg : g.method = m) (hn : As.length = n) (hsize : g.locals.size = nL) (hstack : g.stack = As.reverse ++ rest) (hW : 2 * g.monitorRoom + (rest.map fun v => v.category).sum ≤ 8) (hdg : decode cc g.pc = .ok (.invokestatic index, 3)) (hf : cells + mc ≤ R.cells ∧ slots + ms ≤ R.slots) :
    vx_Run p l e R s m args below meth c H locs cells slots mc ms g rest (Qc As.toArray) XC free := by
  obtain ⟨⟨hrc, hrs, hfr, hlo, hws, hcw⟩, hcode, hini, hy, hlen, hl, hstt⟩ := cw
  have hK : vx_Back l R p e below s args y 3 8 (PreOf R mc ms Pc) (PostOf Qc mc ms free) (vx_Post XC mc ms free) := vx_backW (hh := hh) (bytes := bytes) (maxL := maxL) (ret := ret) hM hp.1 hrc hrs hfr hlo hws hcw (fun a' U hW => word_at hW (Or.inl (by first | rfl | simp [Cond.onTables, Cond.keeps, Cond.steady])) hini)
  obtain ⟨hx, hb, hml, ho, -⟩ := S
  intro T hT X
  rcases vx_callSX X hx (hh := hh) (bytes := bytes) (maxL := maxL) (ret := ret) ho hl hstt hini hcode hy hK hg (hsize.trans hml.symm) (argsL := As) (rest := rest) (fun sig h => hn.trans (hlen sig h)) hstack hW (by rw [hb]; exact hdg)
    (fun vm₁ hW₁ => ⟨hf.1, hf.2, hp.2 (T.setVm vm₁) hT hW₁⟩) with ⟨v, vm₁, ⟨U', l2, c2, s2⟩, hW₁, X', ⟨g', mk, t, L, e1, e2, hq, h1, hL, h2, h3⟩, st⟩ | ⟨q, vm₁, ⟨U', l2, c2, s2⟩, hW₁, X', ⟨g', mk, t, L, E, ce, e1, e2, hq, hce, hcv, hcl, h1, hL, h2, h3⟩, st⟩
  · dsimp only [Pt.U, Pt.locs, Pt.cells, Pt.slots] at X' e1 e2 h1 h2 h3 st
    subst h1; subst h2; subst h3
    exact Or.inl ⟨v, (T.setVm vm₁).calling g' mk As.toArray, t, U', L, hT, X', hL, e1, e2, hq, st⟩
  · dsimp only [Pt.U, Pt.locs, Pt.cells, Pt.slots] at X' e1 e2 h1 h2 h3 st hcl
    subst h1; subst h2; subst h3
    exact Or.inr ⟨q, (T.setVm vm₁).calling g' mk As.toArray, t, U', L, E, ce, hT, X', hL, e1, e2, hq, hce, hcv, vx_cls hW₁ hcl, st⟩
end
end VXH
theorem vx_ofWH {l : Launch} {y : MethodName} {ws ws' : List Cond} {rm : Room} {Pc : Array Value → State → Prop} {Qc : Array Value → State → Outcome → State → Prop} {XC : String → State → State → Prop} {mc ms : Nat} {free : Addr → Prop} {cc : ByteArray} {maxL : Nat} {ret : Option FieldType} {hh : List (Nat × Nat × Nat × Nat)}
    (hy : plainName y.cls = true) (hw : ws = Cond.codeWith y cc maxL ret hh :: ws')
    (body : ∀ p e s m args below meth c s₁, BodyLoose p l y (headSpec ws rm) cc maxL ret e s m args below meth c s₁ → c.maxLocals = maxL → Pc args s →
      W p l e (headSpec ws rm).room s m args below meth c s.heap [] 0 0 (vx_MQ below Qc XC args s mc ms free) (entryFrame m args maxL)) : vx_Met l y ws rm Pc Qc XC mc ms free := by
  refine MetFree.of_bodyS (code := cc) (maxLocals := maxL) (ret := ret) hy ?_ ?_
  · intro args s m h hn
    obtain ⟨m9, meth, c, hn9, h1, h2, h3, h4, -, h5, h6, -⟩ := Cond.codeWith_spec (atoms_spec (ws := ws) h _ (by rw [hw]; exact List.mem_cons_self))
    cases hn.symm.trans hn9
    exact ⟨meth, c, h1, h2, h3, h4, h5, h6⟩
  · intro p e s m args below meth c s₁ B hml hP _
    have hh0 : s₁.heap = s.heap := by rw [B.state]; rfl
    obtain ⟨t, a1, o, b1, b2, b3⟩ := body p e s m args below meth c s₁ B hml hP s₁ hh0 (Stand.of_body B)
    exact ⟨t, o, a1, b1, b2, b3⟩
/-! ===== END ===== -/
end
section
def RX0 : String := "SlateRoof$DayText"
def TX0 : u_T := fun k => match k with
  | 0 => ("SlateRoof$DayText", "signs", "[C", true)
  | 1 => ("SlateRoof$DayText", "length", "I", false)
  | 2 => ("SlateRoof$DayText", "weathers", "[I", true)
  | 3 => ("SlateRoof$DayText", "repeats", "[I", true)
  | _ => ("SlateRoof$DayText", "parts", "I", false)
def tyX0 : Nat → FieldType := fun k => match k with
  | 0 => .array .char
  | 1 => .int
  | 2 => .array .int
  | 3 => .array .int
  | _ => .int
theorem nmX0 : ∀ a, a < 5 → ∀ b, b < 5 → a ≠ b → (TX0 a).2.1 ≠ (TX0 b).2.1 := by decide +kernel
theorem tyX0_ok : ∀ k, k < 5 → parseFieldDescriptor (TX0 k).2.2.1 = some (tyX0 k) := by decide +kernel
abbrev cX0_init : ByteArray := prog_2_method_1_code
def yX0_init : MethodName := ⟨RX0, "<init>", "()V"⟩
abbrev cX0_addSign : ByteArray := prog_2_method_2_code
def yX0_addSign : MethodName := ⟨RX0, "addSign", "(C)V"⟩
abbrev cX0_signAt : ByteArray := prog_2_method_3_code
def yX0_signAt : MethodName := ⟨RX0, "signAt", "(I)C"⟩
abbrev cX0_firstWrong : ByteArray := prog_2_method_4_code
def yX0_firstWrong : MethodName := ⟨RX0, "firstWrong", "()I"⟩
abbrev cX0_isComplete : ByteArray := prog_2_method_5_code
def yX0_isComplete : MethodName := ⟨RX0, "isComplete", "()Z"⟩
abbrev cX0_readParts : ByteArray := prog_2_method_6_code
def yX0_readParts : MethodName := ⟨RX0, "readParts", "()I"⟩
abbrev cX0_after : ByteArray := prog_2_method_7_code
def yX0_after : MethodName := ⟨RX0, "after", "(IC)I"⟩
abbrev cX0_isDigit : ByteArray := prog_2_method_8_code
def yX0_isDigit : MethodName := ⟨RX0, "isDigit", "(C)Z"⟩
abbrev cX0_weatherOf : ByteArray := prog_2_method_9_code
def yX0_weatherOf : MethodName := ⟨RX0, "weatherOf", "(C)I"⟩
def RX1 : String := "SlateRoof$Roof"
def TX1 : u_T := fun k => match k with
  | 0 => ("SlateRoof$Roof", "height", "I", false)
  | 1 => ("SlateRoof$Roof", "width", "I", false)
  | 2 => ("SlateRoof$Roof", "courses", "I", false)
  | 3 => ("SlateRoof$Roof", "lengths", "[I", true)
  | 4 => ("SlateRoof$Roof", "laid", "[I", true)
  | 5 => ("SlateRoof$Roof", "stock", "[I", true)
  | 6 => ("SlateRoof$Roof", "heap", "[I", true)
  | 7 => ("SlateRoof$Roof", "bought", "[I", true)
  | 8 => ("SlateRoof$Roof", "lap", "I", false)
  | 9 => ("SlateRoof$Roof", "pace", "I", false)
  | 10 => ("SlateRoof$Roof", "drying", "I", false)
  | 11 => ("SlateRoof$Roof", "day", "I", false)
  | 12 => ("SlateRoof$Roof", "effort", "I", false)
  | 13 => ("SlateRoof$Roof", "damp", "I", false)
  | 14 => ("SlateRoof$Roof", "covered", "Z", false)
  | 15 => ("SlateRoof$Roof", "cut", "I", false)
  | 16 => ("SlateRoof$Roof", "thrown", "I", false)
  | 17 => ("SlateRoof$Roof", "elder", "I", false)
  | _ => ("SlateRoof$Roof", "cost", "I", false)
def tyX1 : Nat → FieldType := fun k => match k with
  | 0 => .int
  | 1 => .int
  | 2 => .int
  | 3 => .array .int
  | 4 => .array .int
  | 5 => .array .int
  | 6 => .array .int
  | 7 => .array .int
  | 8 => .int
  | 9 => .int
  | 10 => .int
  | 11 => .int
  | 12 => .int
  | 13 => .int
  | 14 => .boolean
  | 15 => .int
  | 16 => .int
  | 17 => .int
  | _ => .int
theorem nmX1 : ∀ a, a < 19 → ∀ b, b < 19 → a ≠ b → (TX1 a).2.1 ≠ (TX1 b).2.1 := by decide +kernel
theorem tyX1_ok : ∀ k, k < 19 → parseFieldDescriptor (TX1 k).2.2.1 = some (tyX1 k) := by decide +kernel
abbrev cX1_init : ByteArray := prog_3_method_1_code
def yX1_init : MethodName := ⟨RX1, "<init>", "()V"⟩
abbrev cX1_copyFrom : ByteArray := prog_3_method_2_code
def yX1_copyFrom : MethodName := ⟨RX1, "copyFrom", "(LSlateRoof$Roof;)V"⟩
abbrev cX1_settingOf : ByteArray := prog_3_method_3_code
def yX1_settingOf : MethodName := ⟨RX1, "settingOf", "(I)I"⟩
abbrev cX1_changeSetting : ByteArray := prog_3_method_4_code
def yX1_changeSetting : MethodName := ⟨RX1, "changeSetting", "(II)V"⟩
abbrev cX1_hasCourse : ByteArray := prog_3_method_5_code
def yX1_hasCourse : MethodName := ⟨RX1, "hasCourse", "(I)Z"⟩
abbrev cX1_hasPlace : ByteArray := prog_3_method_6_code
def yX1_hasPlace : MethodName := ⟨RX1, "hasPlace", "(II)Z"⟩
abbrev cX1_placesOf : ByteArray := prog_3_method_7_code
def yX1_placesOf : MethodName := ⟨RX1, "placesOf", "(I)I"⟩
abbrev cX1_hasSlate : ByteArray := prog_3_method_8_code
def yX1_hasSlate : MethodName := ⟨RX1, "hasSlate", "(II)Z"⟩
abbrev cX1_slatesIn : ByteArray := prog_3_method_9_code
def yX1_slatesIn : MethodName := ⟨RX1, "slatesIn", "(I)I"⟩
abbrev cX1_isFull : ByteArray := prog_3_method_10_code
def yX1_isFull : MethodName := ⟨RX1, "isFull", "(I)Z"⟩
abbrev cX1_firstGap : ByteArray := prog_3_method_11_code
def yX1_firstGap : MethodName := ⟨RX1, "firstGap", "(I)I"⟩
abbrev cX1_lastGap : ByteArray := prog_3_method_12_code
def yX1_lastGap : MethodName := ⟨RX1, "lastGap", "(I)I"⟩
abbrev cX1_gaugeOf : ByteArray := prog_3_method_13_code
def yX1_gaugeOf : MethodName := ⟨RX1, "gaugeOf", "(I)I"⟩
abbrev cX1_topOf : ByteArray := prog_3_method_14_code
def yX1_topOf : MethodName := ⟨RX1, "topOf", "(I)I"⟩
abbrev cX1_isHighEnough : ByteArray := prog_3_method_15_code
def yX1_isHighEnough : MethodName := ⟨RX1, "isHighEnough", "()Z"⟩
abbrev cX1_slatesOnRoof : ByteArray := prog_3_method_16_code
def yX1_slatesOnRoof : MethodName := ⟨RX1, "slatesOnRoof", "()I"⟩
abbrev cX1_slatesOnRoofOf : ByteArray := prog_3_method_17_code
def yX1_slatesOnRoofOf : MethodName := ⟨RX1, "slatesOnRoofOf", "(I)I"⟩
abbrev cX1_gapsOnRoof : ByteArray := prog_3_method_18_code
def yX1_gapsOnRoof : MethodName := ⟨RX1, "gapsOnRoof", "()I"⟩
abbrev cX1_isDone : ByteArray := prog_3_method_19_code
def yX1_isDone : MethodName := ⟨RX1, "isDone", "()Z"⟩
abbrev cX1_longestNext : ByteArray := prog_3_method_20_code
def yX1_longestNext : MethodName := ⟨RX1, "longestNext", "()I"⟩
abbrev cX1_canBeSlated : ByteArray := prog_3_method_21_code
def yX1_canBeSlated : MethodName := ⟨RX1, "canBeSlated", "()Z"⟩
abbrev cX1_canGoUp : ByteArray := prog_3_method_22_code
def yX1_canGoUp : MethodName := ⟨RX1, "canGoUp", "()Z"⟩
abbrev cX1_canLay : ByteArray := prog_3_method_23_code
def yX1_canLay : MethodName := ⟨RX1, "canLay", "(I)Z"⟩
abbrev cX1_canMend : ByteArray := prog_3_method_24_code
def yX1_canMend : MethodName := ⟨RX1, "canMend", "(II)Z"⟩
abbrev cX1_addCourse : ByteArray := prog_3_method_25_code
def yX1_addCourse : MethodName := ⟨RX1, "addCourse", "(I)V"⟩
abbrev cX1_putSlate : ByteArray := prog_3_method_26_code
def yX1_putSlate : MethodName := ⟨RX1, "putSlate", "(III)V"⟩
abbrev cX1_passDay : ByteArray := prog_3_method_27_code
def yX1_passDay : MethodName := ⟨RX1, "passDay", "(I)I"⟩
abbrev cX1_dropSlates : ByteArray := prog_3_method_28_code
def yX1_dropSlates : MethodName := ⟨RX1, "dropSlates", "(II)I"⟩
abbrev cX1_slateForTheDay : ByteArray := prog_3_method_29_code
def yX1_slateForTheDay : MethodName := ⟨RX1, "slateForTheDay", "()I"⟩
abbrev cX1_mendFirstGap : ByteArray := prog_3_method_30_code
def yX1_mendFirstGap : MethodName := ⟨RX1, "mendFirstGap", "()Z"⟩
abbrev cX1_layNext : ByteArray := prog_3_method_31_code
def yX1_layNext : MethodName := ⟨RX1, "layNext", "()Z"⟩
abbrev cX1_nextLength : ByteArray := prog_3_method_32_code
def yX1_nextLength : MethodName := ⟨RX1, "nextLength", "()I"⟩
abbrev cX1_buildFromStock : ByteArray := prog_3_method_33_code
def yX1_buildFromStock : MethodName := ⟨RX1, "buildFromStock", "()V"⟩
abbrev cX1_coursesToTop : ByteArray := prog_3_method_34_code
def yX1_coursesToTop : MethodName := ⟨RX1, "coursesToTop", "(I)I"⟩
abbrev cX1_placesOfNext : ByteArray := prog_3_method_35_code
def yX1_placesOfNext : MethodName := ⟨RX1, "placesOfNext", "(I)I"⟩
def RX2 : String := "SlateRoof$Saves"
def TX2 : u_T := fun k => match k with
  | 0 => ("SlateRoof$Saves", "ring", "[LSlateRoof$Roof;", true)
  | 1 => ("SlateRoof$Saves", "oldest", "I", false)
  | _ => ("SlateRoof$Saves", "many", "I", false)
def tyX2 : Nat → FieldType := fun k => match k with
  | 0 => .array (.object "SlateRoof$Roof")
  | 1 => .int
  | _ => .int
theorem nmX2 : ∀ a, a < 3 → ∀ b, b < 3 → a ≠ b → (TX2 a).2.1 ≠ (TX2 b).2.1 := by decide +kernel
theorem tyX2_ok : ∀ k, k < 3 → parseFieldDescriptor (TX2 k).2.2.1 = some (tyX2 k) := by decide +kernel
abbrev cX2_init : ByteArray := prog_4_method_1_code
def yX2_init : MethodName := ⟨RX2, "<init>", "()V"⟩
abbrev cX2_keep : ByteArray := prog_4_method_2_code
def yX2_keep : MethodName := ⟨RX2, "keep", "(LSlateRoof$Roof;)V"⟩
abbrev cX2_bringBack : ByteArray := prog_4_method_3_code
def yX2_bringBack : MethodName := ⟨RX2, "bringBack", "(LSlateRoof$Roof;)V"⟩
abbrev cX2_slotAt : ByteArray := prog_4_method_4_code
def yX2_slotAt : MethodName := ⟨RX2, "slotAt", "(I)LSlateRoof$Roof;"⟩
def RX3 : String := "SlateRoof"
def TX3 : u_T := fun k => match k with
  | 0 => ("SlateRoof", "now", "LSlateRoof$Roof;", true)
  | 1 => ("SlateRoof", "trial", "LSlateRoof$Roof;", true)
  | 2 => ("SlateRoof", "saves", "LSlateRoof$Saves;", true)
  | _ => ("SlateRoof", "text", "LSlateRoof$DayText;", true)
def tyX3 : Nat → FieldType := fun k => match k with
  | 0 => .object "SlateRoof$Roof"
  | 1 => .object "SlateRoof$Roof"
  | 2 => .object "SlateRoof$Saves"
  | _ => .object "SlateRoof$DayText"
theorem nmX3 : ∀ a, a < 4 → ∀ b, b < 4 → a ≠ b → (TX3 a).2.1 ≠ (TX3 b).2.1 := by decide +kernel
theorem tyX3_ok : ∀ k, k < 4 → parseFieldDescriptor (TX3 k).2.2.1 = some (tyX3 k) := by decide +kernel
abbrev cX3_init : ByteArray := prog_1_method_1_code
def yX3_init : MethodName := ⟨RX3, "<init>", "()V"⟩
abbrev cX3_begin : ByteArray := prog_1_method_2_code
def yX3_begin : MethodName := ⟨RX3, "begin", "(II)I"⟩
abbrev cX3_set : ByteArray := prog_1_method_3_code
def yX3_set : MethodName := ⟨RX3, "set", "(II)I"⟩
abbrev cX3_buy : ByteArray := prog_1_method_4_code
def yX3_buy : MethodName := ⟨RX3, "buy", "(III)I"⟩
abbrev cX3_recut : ByteArray := prog_1_method_5_code
def yX3_recut : MethodName := ⟨RX3, "recut", "(III)I"⟩
abbrev cX3_clearHeap : ByteArray := prog_1_method_6_code
def yX3_clearHeap : MethodName := ⟨RX3, "clearHeap", "(I)I"⟩
abbrev cX3_course : ByteArray := prog_1_method_7_code
def yX3_course : MethodName := ⟨RX3, "course", "(I)I"⟩
abbrev cX3_lay : ByteArray := prog_1_method_8_code
def yX3_lay : MethodName := ⟨RX3, "lay", "(I)I"⟩
abbrev cX3_mend : ByteArray := prog_1_method_9_code
def yX3_mend : MethodName := ⟨RX3, "mend", "(II)I"⟩
abbrev cX3_cover : ByteArray := prog_1_method_10_code
def yX3_cover : MethodName := ⟨RX3, "cover", "(Z)I"⟩
abbrev cX3_pass : ByteArray := prog_1_method_11_code
def yX3_pass : MethodName := ⟨RX3, "pass", "(I)I"⟩
abbrev cX3_append : ByteArray := prog_1_method_12_code
def yX3_append : MethodName := ⟨RX3, "append", "(I)I"⟩
abbrev cX3_clearBuffer : ByteArray := prog_1_method_13_code
def yX3_clearBuffer : MethodName := ⟨RX3, "clearBuffer", "()I"⟩
abbrev cX3_firstError : ByteArray := prog_1_method_14_code
def yX3_firstError : MethodName := ⟨RX3, "firstError", "()I"⟩
abbrev cX3_work : ByteArray := prog_1_method_15_code
def yX3_work : MethodName := ⟨RX3, "work", "()I"⟩
abbrev cX3_undo : ByteArray := prog_1_method_16_code
def yX3_undo : MethodName := ⟨RX3, "undo", "()I"⟩
abbrev cX3_courseOf : ByteArray := prog_1_method_17_code
def yX3_courseOf : MethodName := ⟨RX3, "courseOf", "(II)I"⟩
abbrev cX3_lies : ByteArray := prog_1_method_18_code
def yX3_lies : MethodName := ⟨RX3, "lies", "(II)Z"⟩
abbrev cX3_slates : ByteArray := prog_1_method_19_code
def yX3_slates : MethodName := ⟨RX3, "slates", "(II)I"⟩
abbrev cX3_count : ByteArray := prog_1_method_20_code
def yX3_count : MethodName := ⟨RX3, "count", "(I)I"⟩
abbrev cX3_setting : ByteArray := prog_1_method_21_code
def yX3_setting : MethodName := ⟨RX3, "setting", "(I)I"⟩
abbrev cX3_toTop : ByteArray := prog_1_method_22_code
def yX3_toTop : MethodName := ⟨RX3, "toTop", "(II)I"⟩
abbrev cX3_reach : ByteArray := prog_1_method_23_code
def yX3_reach : MethodName := ⟨RX3, "reach", "(I)I"⟩
abbrev cX3_dryDays : ByteArray := prog_1_method_24_code
def yX3_dryDays : MethodName := ⟨RX3, "dryDays", "()I"⟩
abbrev cX3_bestLength : ByteArray := prog_1_method_25_code
def yX3_bestLength : MethodName := ⟨RX3, "bestLength", "()I"⟩
abbrev cX3_meanPrice : ByteArray := prog_1_method_26_code
def yX3_meanPrice : MethodName := ⟨RX3, "meanPrice", "()D"⟩
abbrev cX3_digest : ByteArray := prog_1_method_27_code
def yX3_digest : MethodName := ⟨RX3, "digest", "()J"⟩
abbrev cX3_withLengths : ByteArray := prog_1_method_28_code
def yX3_withLengths : MethodName := ⟨RX3, "withLengths", "(J)J"⟩
abbrev cX3_withCourses : ByteArray := prog_1_method_29_code
def yX3_withCourses : MethodName := ⟨RX3, "withCourses", "(J)J"⟩
abbrev cX3_mixed : ByteArray := prog_1_method_30_code
def yX3_mixed : MethodName := ⟨RX3, "mixed", "(JJ)J"⟩
abbrev cX3_bitsOf : ByteArray := prog_1_method_31_code
def yX3_bitsOf : MethodName := ⟨RX3, "bitsOf", "(D)J"⟩
abbrev cX3_isWithin : ByteArray := prog_1_method_32_code
def yX3_isWithin : MethodName := ⟨RX3, "isWithin", "(III)Z"⟩
abbrev cX3_isLength : ByteArray := prog_1_method_33_code
def yX3_isLength : MethodName := ⟨RX3, "isLength", "(I)Z"⟩
abbrev cX3_priceOf : ByteArray := prog_1_method_34_code
def yX3_priceOf : MethodName := ⟨RX3, "priceOf", "(I)I"⟩
abbrev cX3_brokenAmong : ByteArray := prog_1_method_35_code
def yX3_brokenAmong : MethodName := ⟨RX3, "brokenAmong", "(II)I"⟩
abbrev cX3_valueAt : ByteArray := prog_1_method_36_code
def yX3_valueAt : MethodName := ⟨RX3, "valueAt", "([II)I"⟩
abbrev cX3_addAt : ByteArray := prog_1_method_37_code
def yX3_addAt : MethodName := ⟨RX3, "addAt", "([III)V"⟩
abbrev cX3_sumOf : ByteArray := prog_1_method_38_code
def yX3_sumOf : MethodName := ⟨RX3, "sumOf", "([I)I"⟩
abbrev cX3_copyRow : ByteArray := prog_1_method_39_code
def yX3_copyRow : MethodName := ⟨RX3, "copyRow", "([I[I)V"⟩
def RX4 : String := "SlateRoofModel"
def TX4 : u_T := fun k => match k with
  | 0 => ("SlateRoofModel", "z", "[I", true)
  | 1 => ("SlateRoofModel", "aside", "[I", true)
  | 2 => ("SlateRoofModel", "rows", "[I", true)
  | 3 => ("SlateRoofModel", "text", "[I", true)
  | 4 => ("SlateRoofModel", "weather", "[I", true)
  | 5 => ("SlateRoofModel", "days", "I", false)
  | 6 => ("SlateRoofModel", "isWhole", "Z", false)
  | 7 => ("SlateRoofModel", "saved", "I", false)
  | 8 => ("SlateRoofModel", "length", "I", false)
  | 9 => ("SlateRoofModel", "thrown", "I", false)
  | 10 => ("SlateRoofModel", "reachLast", "I", false)
  | 11 => ("SlateRoofModel", "reachTop", "I", false)
  | 12 => ("SlateRoofModel", "reachLeft", "I", false)
  | _ => ("SlateRoofModel", "h", "J", false)
def tyX4 : Nat → FieldType := fun k => match k with
  | 0 => .array .int
  | 1 => .array .int
  | 2 => .array .int
  | 3 => .array .int
  | 4 => .array .int
  | 5 => .int
  | 6 => .boolean
  | 7 => .int
  | 8 => .int
  | 9 => .int
  | 10 => .int
  | 11 => .int
  | 12 => .int
  | _ => .long
theorem nmX4 : ∀ a, a < 14 → ∀ b, b < 14 → a ≠ b → (TX4 a).2.1 ≠ (TX4 b).2.1 := by decide +kernel
theorem tyX4_ok : ∀ k, k < 14 → parseFieldDescriptor (TX4 k).2.2.1 = some (tyX4 k) := by decide +kernel
abbrev cX4_init : ByteArray := prog_6_method_1_code
def yX4_init : MethodName := ⟨RX4, "<init>", "()V"⟩
abbrev cX4_thrown : ByteArray := prog_6_method_2_code
def yX4_thrown : MethodName := ⟨RX4, "thrown", "()I"⟩
abbrev cX4_fails : ByteArray := prog_6_method_3_code
def yX4_fails : MethodName := ⟨RX4, "fails", "(I)I"⟩
abbrev cX4_within : ByteArray := prog_6_method_4_code
def yX4_within : MethodName := ⟨RX4, "within", "(III)Z"⟩
abbrev cX4_isLength : ByteArray := prog_6_method_5_code
def yX4_isLength : MethodName := ⟨RX4, "isLength", "(I)Z"⟩
abbrev cX4_save : ByteArray := prog_6_method_6_code
def yX4_save : MethodName := ⟨RX4, "save", "()V"⟩
abbrev cX4_keep : ByteArray := prog_6_method_7_code
def yX4_keep : MethodName := ⟨RX4, "keep", "()V"⟩
abbrev cX4_bring : ByteArray := prog_6_method_8_code
def yX4_bring : MethodName := ⟨RX4, "bring", "()V"⟩
abbrev cX4_placesOf : ByteArray := prog_6_method_9_code
def yX4_placesOf : MethodName := ⟨RX4, "placesOf", "(I)I"⟩
abbrev cX4_isThere : ByteArray := prog_6_method_10_code
def yX4_isThere : MethodName := ⟨RX4, "isThere", "(II)Z"⟩
abbrev cX4_liesIn : ByteArray := prog_6_method_11_code
def yX4_liesIn : MethodName := ⟨RX4, "liesIn", "(I)I"⟩
abbrev cX4_firstGap : ByteArray := prog_6_method_12_code
def yX4_firstGap : MethodName := ⟨RX4, "firstGap", "(I)I"⟩
abbrev cX4_lastGap : ByteArray := prog_6_method_13_code
def yX4_lastGap : MethodName := ⟨RX4, "lastGap", "(I)I"⟩
abbrev cX4_gauge : ByteArray := prog_6_method_14_code
def yX4_gauge : MethodName := ⟨RX4, "gauge", "(I)I"⟩
abbrev cX4_topOf : ByteArray := prog_6_method_15_code
def yX4_topOf : MethodName := ⟨RX4, "topOf", "(I)I"⟩
abbrev cX4_top : ByteArray := prog_6_method_16_code
def yX4_top : MethodName := ⟨RX4, "top", "()I"⟩
abbrev cX4_onRoof : ByteArray := prog_6_method_17_code
def yX4_onRoof : MethodName := ⟨RX4, "onRoof", "()I"⟩
abbrev cX4_gaps : ByteArray := prog_6_method_18_code
def yX4_gaps : MethodName := ⟨RX4, "gaps", "()I"⟩
abbrev cX4_isDone : ByteArray := prog_6_method_19_code
def yX4_isDone : MethodName := ⟨RX4, "isDone", "()Z"⟩
abbrev cX4_price : ByteArray := prog_6_method_20_code
def yX4_price : MethodName := ⟨RX4, "price", "(I)I"⟩
abbrev cX4_longest : ByteArray := prog_6_method_21_code
def yX4_longest : MethodName := ⟨RX4, "longest", "()I"⟩
abbrev cX4_isDry : ByteArray := prog_6_method_22_code
def yX4_isDry : MethodName := ⟨RX4, "isDry", "()Z"⟩
abbrev cX4_begin : ByteArray := prog_6_method_23_code
def yX4_begin : MethodName := ⟨RX4, "begin", "(II)I"⟩
abbrev cX4_set : ByteArray := prog_6_method_24_code
def yX4_set : MethodName := ⟨RX4, "set", "(II)I"⟩
abbrev cX4_sum : ByteArray := prog_6_method_25_code
def yX4_sum : MethodName := ⟨RX4, "sum", "(I)I"⟩
abbrev cX4_buy : ByteArray := prog_6_method_26_code
def yX4_buy : MethodName := ⟨RX4, "buy", "(III)I"⟩
abbrev cX4_recut : ByteArray := prog_6_method_27_code
def yX4_recut : MethodName := ⟨RX4, "recut", "(III)I"⟩
abbrev cX4_clearHeap : ByteArray := prog_6_method_28_code
def yX4_clearHeap : MethodName := ⟨RX4, "clearHeap", "(I)I"⟩
abbrev cX4_lastCourse : ByteArray := prog_6_method_29_code
def yX4_lastCourse : MethodName := ⟨RX4, "lastCourse", "()I"⟩
abbrev cX4_begins : ByteArray := prog_6_method_30_code
def yX4_begins : MethodName := ⟨RX4, "begins", "(I)V"⟩
abbrev cX4_course : ByteArray := prog_6_method_31_code
def yX4_course : MethodName := ⟨RX4, "course", "(I)I"⟩
abbrev cX4_lays : ByteArray := prog_6_method_32_code
def yX4_lays : MethodName := ⟨RX4, "lays", "(III)V"⟩
abbrev cX4_lay : ByteArray := prog_6_method_33_code
def yX4_lay : MethodName := ⟨RX4, "lay", "(I)I"⟩
abbrev cX4_isPlace : ByteArray := prog_6_method_34_code
def yX4_isPlace : MethodName := ⟨RX4, "isPlace", "(II)Z"⟩
abbrev cX4_mayMend : ByteArray := prog_6_method_35_code
def yX4_mayMend : MethodName := ⟨RX4, "mayMend", "(II)Z"⟩
abbrev cX4_mend : ByteArray := prog_6_method_36_code
def yX4_mend : MethodName := ⟨RX4, "mend", "(II)I"⟩
abbrev cX4_cover : ByteArray := prog_6_method_37_code
def yX4_cover : MethodName := ⟨RX4, "cover", "(Z)I"⟩
abbrev cX4_fall : ByteArray := prog_6_method_38_code
def yX4_fall : MethodName := ⟨RX4, "fall", "(II)I"⟩
abbrev cX4_goDay : ByteArray := prog_6_method_39_code
def yX4_goDay : MethodName := ⟨RX4, "goDay", "(I)I"⟩
abbrev cX4_pass : ByteArray := prog_6_method_40_code
def yX4_pass : MethodName := ⟨RX4, "pass", "(I)I"⟩
abbrev cX4_openCourse : ByteArray := prog_6_method_41_code
def yX4_openCourse : MethodName := ⟨RX4, "openCourse", "()I"⟩
abbrev cX4_nextLength : ByteArray := prog_6_method_42_code
def yX4_nextLength : MethodName := ⟨RX4, "nextLength", "()I"⟩
abbrev cX4_step : ByteArray := prog_6_method_43_code
def yX4_step : MethodName := ⟨RX4, "step", "()I"⟩
abbrev cX4_workDay : ByteArray := prog_6_method_44_code
def yX4_workDay : MethodName := ⟨RX4, "workDay", "(I)I"⟩
abbrev cX4_append : ByteArray := prog_6_method_45_code
def yX4_append : MethodName := ⟨RX4, "append", "(I)I"⟩
abbrev cX4_clearBuffer : ByteArray := prog_6_method_46_code
def yX4_clearBuffer : MethodName := ⟨RX4, "clearBuffer", "()I"⟩
abbrev cX4_comes : ByteArray := prog_6_method_47_code
def yX4_comes : MethodName := ⟨RX4, "comes", "(II)V"⟩
abbrev cX4_read : ByteArray := prog_6_method_48_code
def yX4_read : MethodName := ⟨RX4, "read", "()I"⟩
abbrev cX4_firstError : ByteArray := prog_6_method_49_code
def yX4_firstError : MethodName := ⟨RX4, "firstError", "()I"⟩
abbrev cX4_work : ByteArray := prog_6_method_50_code
def yX4_work : MethodName := ⟨RX4, "work", "()I"⟩
abbrev cX4_undo : ByteArray := prog_6_method_51_code
def yX4_undo : MethodName := ⟨RX4, "undo", "()I"⟩
abbrev cX4_courseNow : ByteArray := prog_6_method_52_code
def yX4_courseNow : MethodName := ⟨RX4, "courseNow", "(II)I"⟩
abbrev cX4_courseOf : ByteArray := prog_6_method_53_code
def yX4_courseOf : MethodName := ⟨RX4, "courseOf", "(II)I"⟩
abbrev cX4_lies : ByteArray := prog_6_method_54_code
def yX4_lies : MethodName := ⟨RX4, "lies", "(II)Z"⟩
abbrev cX4_roofBy : ByteArray := prog_6_method_55_code
def yX4_roofBy : MethodName := ⟨RX4, "roofBy", "(I)I"⟩
abbrev cX4_slatesNow : ByteArray := prog_6_method_56_code
def yX4_slatesNow : MethodName := ⟨RX4, "slatesNow", "(II)I"⟩
abbrev cX4_slates : ByteArray := prog_6_method_57_code
def yX4_slates : MethodName := ⟨RX4, "slates", "(II)I"⟩
abbrev cX4_counted : ByteArray := prog_6_method_58_code
def yX4_counted : MethodName := ⟨RX4, "counted", "(I)I"⟩
abbrev cX4_count : ByteArray := prog_6_method_59_code
def yX4_count : MethodName := ⟨RX4, "count", "(I)I"⟩
abbrev cX4_setting : ByteArray := prog_6_method_60_code
def yX4_setting : MethodName := ⟨RX4, "setting", "(I)I"⟩
abbrev cX4_toTopNow : ByteArray := prog_6_method_61_code
def yX4_toTopNow : MethodName := ⟨RX4, "toTopNow", "(II)I"⟩
abbrev cX4_toTop : ByteArray := prog_6_method_62_code
def yX4_toTop : MethodName := ⟨RX4, "toTop", "(II)I"⟩
abbrev cX4_reachNow : ByteArray := prog_6_method_63_code
def yX4_reachNow : MethodName := ⟨RX4, "reachNow", "(I)I"⟩
abbrev cX4_reach : ByteArray := prog_6_method_64_code
def yX4_reach : MethodName := ⟨RX4, "reach", "(I)I"⟩
abbrev cX4_dryNow : ByteArray := prog_6_method_65_code
def yX4_dryNow : MethodName := ⟨RX4, "dryNow", "()I"⟩
abbrev cX4_dryDays : ByteArray := prog_6_method_66_code
def yX4_dryDays : MethodName := ⟨RX4, "dryDays", "()I"⟩
abbrev cX4_bestNow : ByteArray := prog_6_method_67_code
def yX4_bestNow : MethodName := ⟨RX4, "bestNow", "()I"⟩
abbrev cX4_bestLength : ByteArray := prog_6_method_68_code
def yX4_bestLength : MethodName := ⟨RX4, "bestLength", "()I"⟩
abbrev cX4_meanNow : ByteArray := prog_6_method_69_code
def yX4_meanNow : MethodName := ⟨RX4, "meanNow", "()D"⟩
abbrev cX4_meanPrice : ByteArray := prog_6_method_70_code
def yX4_meanPrice : MethodName := ⟨RX4, "meanPrice", "()D"⟩
abbrev cX4_mix : ByteArray := prog_6_method_71_code
def yX4_mix : MethodName := ⟨RX4, "mix", "(J)V"⟩
abbrev cX4_digest : ByteArray := prog_6_method_72_code
def yX4_digest : MethodName := ⟨RX4, "digest", "()J"⟩
def RJxe99ae : String := "java/lang/Double"
def TJxe99ae : u_T := fun k => match k with
  | _ => ("", "", "", false)
def tyJxe99ae : Nat → FieldType := fun k => match k with
  | _ => .int
theorem nmJxe99ae : ∀ a, a < 0 → ∀ b, b < 0 → a ≠ b → (TJxe99ae a).2.1 ≠ (TJxe99ae b).2.1 := by decide +kernel
theorem tyJxe99ae_ok : ∀ k, k < 0 → parseFieldDescriptor (TJxe99ae k).2.2.1 = some (tyJxe99ae k) := by decide +kernel
abbrev cJxe99ae_isNaN_b9ae7 : ByteArray := prog_7_method_6_code
def yJxe99ae_isNaN_b9ae7 : MethodName := ⟨RJxe99ae, "isNaN", "(D)Z"⟩
abbrev cJxe99ae_doubleToLongBits_ccdee : ByteArray := prog_7_method_23_code
def yJxe99ae_doubleToLongBits_ccdee : MethodName := ⟨RJxe99ae, "doubleToLongBits", "(D)J"⟩
def RJ6 : String := "java/lang/Integer"
def TJ6 : u_T := fun k => match k with
  | _ => ("", "", "", false)
def tyJ6 : Nat → FieldType := fun k => match k with
  | _ => .int
theorem nmJ6 : ∀ a, a < 0 → ∀ b, b < 0 → a ≠ b → (TJ6 a).2.1 ≠ (TJ6 b).2.1 := by decide +kernel
theorem tyJ6_ok : ∀ k, k < 0 → parseFieldDescriptor (TJ6 k).2.2.1 = some (tyJ6 k) := by decide +kernel
abbrev cJ6_bitCount_0f7a4 : ByteArray := prog_12_method_49_code
def yJ6_bitCount_0f7a4 : MethodName := ⟨RJ6, "bitCount", "(I)I"⟩
def RJ9 : String := "java/lang/Math"
def TJ9 : u_T := fun k => match k with
  | _ => ("", "", "", false)
def tyJ9 : Nat → FieldType := fun k => match k with
  | _ => .int
theorem nmJ9 : ∀ a, a < 0 → ∀ b, b < 0 → a ≠ b → (TJ9 a).2.1 ≠ (TJ9 b).2.1 := by decide +kernel
theorem tyJ9_ok : ∀ k, k < 0 → parseFieldDescriptor (TJ9 k).2.2.1 = some (tyJ9 k) := by decide +kernel
abbrev cJ9_max_7cf53 : ByteArray := prog_13_method_65_code
def yJ9_max_7cf53 : MethodName := ⟨RJ9, "max", "(II)I"⟩
abbrev cJ9_min_7cf53 : ByteArray := prog_13_method_69_code
def yJ9_min_7cf53 : MethodName := ⟨RJ9, "min", "(II)I"⟩
def RJ0 : String := "java/lang/String"
def TJ0 : u_T := fun k => match k with
  | _ => ("", "", "", false)
def tyJ0 : Nat → FieldType := fun k => match k with
  | _ => .int
theorem nmJ0 : ∀ a, a < 0 → ∀ b, b < 0 → a ≠ b → (TJ0 a).2.1 ≠ (TJ0 b).2.1 := by decide +kernel
theorem tyJ0_ok : ∀ k, k < 0 → parseFieldDescriptor (TJ0 k).2.2.1 = some (tyJ0 k) := by decide +kernel
def RJ10 : String := "java/lang/System"
def TJ10 : u_T := fun k => match k with
  | _ => ("", "", "", false)
def tyJ10 : Nat → FieldType := fun k => match k with
  | _ => .int
theorem nmJ10 : ∀ a, a < 0 → ∀ b, b < 0 → a ≠ b → (TJ10 a).2.1 ≠ (TJ10 b).2.1 := by decide +kernel
theorem tyJ10_ok : ∀ k, k < 0 → parseFieldDescriptor (TJ10 k).2.2.1 = some (tyJ10 k) := by decide +kernel
def RL : String := "SlateRoofLaw"
abbrev cL_begin : ByteArray := method_3_code
def yL_begin : MethodName := ⟨RL, "begin", "(LSlateRoof;II[J)I"⟩
abbrev cL_set : ByteArray := method_4_code
def yL_set : MethodName := ⟨RL, "set", "(LSlateRoof;II[J)I"⟩
abbrev cL_buy : ByteArray := method_5_code
def yL_buy : MethodName := ⟨RL, "buy", "(LSlateRoof;III[J)I"⟩
abbrev cL_recut : ByteArray := method_6_code
def yL_recut : MethodName := ⟨RL, "recut", "(LSlateRoof;III[J)I"⟩
abbrev cL_clearHeap : ByteArray := method_7_code
def yL_clearHeap : MethodName := ⟨RL, "clearHeap", "(LSlateRoof;I[J)I"⟩
abbrev cL_course : ByteArray := method_8_code
def yL_course : MethodName := ⟨RL, "course", "(LSlateRoof;I[J)I"⟩
abbrev cL_lay : ByteArray := method_9_code
def yL_lay : MethodName := ⟨RL, "lay", "(LSlateRoof;I[J)I"⟩
abbrev cL_mend : ByteArray := method_10_code
def yL_mend : MethodName := ⟨RL, "mend", "(LSlateRoof;II[J)I"⟩
abbrev cL_pass : ByteArray := method_11_code
def yL_pass : MethodName := ⟨RL, "pass", "(LSlateRoof;I[J)I"⟩
abbrev cL_append : ByteArray := method_12_code
def yL_append : MethodName := ⟨RL, "append", "(LSlateRoof;I[J)I"⟩
abbrev cL_work : ByteArray := method_13_code
def yL_work : MethodName := ⟨RL, "work", "(LSlateRoof;[J)I"⟩
abbrev cL_undo : ByteArray := method_14_code
def yL_undo : MethodName := ⟨RL, "undo", "(LSlateRoof;[J)I"⟩
abbrev cL_courseOf : ByteArray := method_15_code
def yL_courseOf : MethodName := ⟨RL, "courseOf", "(LSlateRoof;II[J)I"⟩
abbrev cL_lies : ByteArray := method_16_code
def yL_lies : MethodName := ⟨RL, "lies", "(LSlateRoof;II[J)I"⟩
abbrev cL_slates : ByteArray := method_17_code
def yL_slates : MethodName := ⟨RL, "slates", "(LSlateRoof;II[J)I"⟩
abbrev cL_count : ByteArray := method_18_code
def yL_count : MethodName := ⟨RL, "count", "(LSlateRoof;I[J)I"⟩
abbrev cL_setting : ByteArray := method_19_code
def yL_setting : MethodName := ⟨RL, "setting", "(LSlateRoof;I[J)I"⟩
abbrev cL_toTop : ByteArray := method_20_code
def yL_toTop : MethodName := ⟨RL, "toTop", "(LSlateRoof;II[J)I"⟩
abbrev cL_reach : ByteArray := method_21_code
def yL_reach : MethodName := ⟨RL, "reach", "(LSlateRoof;I[J)I"⟩
abbrev cL_law : ByteArray := code
def yL_law : MethodName := ⟨RL, "law", "([I)Z"⟩
/-- the words that the tables alone decide: every method may use all of them -/
def a_WS : List Cond := lw_tbl.filter goodWord
theorem a_WS_tbl {w : Cond} (h : w ∈ a_WS) : w ∈ lw_tbl := (List.mem_filter.mp h).1
theorem a_WS_good {w : Cond} (h : w ∈ a_WS) : goodWord w = true := (List.mem_filter.mp h).2
theorem a_in0 (i : Nat) {w : Cond} (h : (k2_sels lw_privs)[i]? = some w) (hg : goodWord w = true) : w ∈ a_WS := List.mem_filter.mpr ⟨List.mem_append_left _ (List.mem_of_getElem? h), hg⟩
theorem a_in1 (i : Nat) {w : Cond} (h : tables_1_1[i]? = some w) (hg : goodWord w = true) : w ∈ a_WS := List.mem_filter.mpr ⟨List.mem_append_right _ (List.mem_append_left _ (List.mem_of_getElem? h)), hg⟩
theorem a_in2 (i : Nat) {w : Cond} (h : tables_1_2[i]? = some w) (hg : goodWord w = true) : w ∈ a_WS := List.mem_filter.mpr ⟨List.mem_append_right _ (List.mem_append_right _ (List.mem_append_left _ (List.mem_of_getElem? h))), hg⟩
theorem a_in3 (i : Nat) {w : Cond} (h : tables_1_3[i]? = some w) (hg : goodWord w = true) : w ∈ a_WS := List.mem_filter.mpr ⟨List.mem_append_right _ (List.mem_append_right _ (List.mem_append_right _ (List.mem_append_left _ (List.mem_of_getElem? h)))), hg⟩
theorem a_in4 (i : Nat) {w : Cond} (h : tables_1_4[i]? = some w) (hg : goodWord w = true) : w ∈ a_WS := List.mem_filter.mpr ⟨List.mem_append_right _ (List.mem_append_right _ (List.mem_append_right _ (List.mem_append_right _ (List.mem_append_left _ (List.mem_of_getElem? h))))), hg⟩
theorem a_in5 (i : Nat) {w : Cond} (h : tables_1_5[i]? = some w) (hg : goodWord w = true) : w ∈ a_WS := List.mem_filter.mpr ⟨List.mem_append_right _ (List.mem_append_right _ (List.mem_append_right _ (List.mem_append_right _ (List.mem_append_right _ (List.mem_of_getElem? h))))), hg⟩
end
section
theorem dX0_init_0 : decode cX0_init 0 = .ok (.aload_n 0, 1) := by decide +kernel
theorem dX0_init_1 : decode cX0_init 1 = .ok (.invokespecial 3, 3) := by decide +kernel
theorem dX0_init_4 : decode cX0_init 4 = .ok (.aload_n 0, 1) := by decide +kernel
theorem dX0_init_5 : decode cX0_init 5 = .ok (.bipush 60, 2) := by decide +kernel
theorem dX0_init_7 : decode cX0_init 7 = .ok (.newarray .char, 2) := by decide +kernel
theorem dX0_init_9 : decode cX0_init 9 = .ok (.putfield 9, 3) := by decide +kernel
theorem dX0_init_12 : decode cX0_init 12 = .ok (.aload_n 0, 1) := by decide +kernel
theorem dX0_init_13 : decode cX0_init 13 = .ok (.bipush 60, 2) := by decide +kernel
theorem dX0_init_15 : decode cX0_init 15 = .ok (.newarray .int, 2) := by decide +kernel
theorem dX0_init_17 : decode cX0_init 17 = .ok (.putfield 15, 3) := by decide +kernel
theorem dX0_init_20 : decode cX0_init 20 = .ok (.aload_n 0, 1) := by decide +kernel
theorem dX0_init_21 : decode cX0_init 21 = .ok (.bipush 60, 2) := by decide +kernel
theorem dX0_init_23 : decode cX0_init 23 = .ok (.newarray .int, 2) := by decide +kernel
theorem dX0_init_25 : decode cX0_init 25 = .ok (.putfield 19, 3) := by decide +kernel
theorem dX0_init_28 : decode cX0_init 28 = .ok (.return_, 1) := by decide +kernel
theorem dX0_addSign_0 : decode cX0_addSign 0 = .ok (.aload_n 0, 1) := by decide +kernel
theorem dX0_addSign_1 : decode cX0_addSign 1 = .ok (.getfield 22, 3) := by decide +kernel
theorem dX0_addSign_4 : decode cX0_addSign 4 = .ok (.aload_n 0, 1) := by decide +kernel
theorem dX0_addSign_5 : decode cX0_addSign 5 = .ok (.getfield 9, 3) := by decide +kernel
theorem dX0_addSign_8 : decode cX0_addSign 8 = .ok (.arraylength, 1) := by decide +kernel
theorem dX0_addSign_9 : decode cX0_addSign 9 = .ok (.if_icmp .ge 23, 3) := by decide +kernel
theorem dX0_addSign_12 : decode cX0_addSign 12 = .ok (.aload_n 0, 1) := by decide +kernel
theorem dX0_addSign_13 : decode cX0_addSign 13 = .ok (.getfield 9, 3) := by decide +kernel
theorem dX0_addSign_16 : decode cX0_addSign 16 = .ok (.aload_n 0, 1) := by decide +kernel
theorem dX0_addSign_17 : decode cX0_addSign 17 = .ok (.getfield 22, 3) := by decide +kernel
theorem dX0_addSign_20 : decode cX0_addSign 20 = .ok (.iload_n 1, 1) := by decide +kernel
theorem dX0_addSign_21 : decode cX0_addSign 21 = .ok (.castore, 1) := by decide +kernel
theorem dX0_addSign_22 : decode cX0_addSign 22 = .ok (.aload_n 0, 1) := by decide +kernel
theorem dX0_addSign_23 : decode cX0_addSign 23 = .ok (.dup, 1) := by decide +kernel
theorem dX0_addSign_24 : decode cX0_addSign 24 = .ok (.getfield 22, 3) := by decide +kernel
theorem dX0_addSign_27 : decode cX0_addSign 27 = .ok (.iconst 1, 1) := by decide +kernel
theorem dX0_addSign_28 : decode cX0_addSign 28 = .ok (.iadd, 1) := by decide +kernel
theorem dX0_addSign_29 : decode cX0_addSign 29 = .ok (.putfield 22, 3) := by decide +kernel
theorem dX0_addSign_32 : decode cX0_addSign 32 = .ok (.return_, 1) := by decide +kernel
theorem dX0_signAt_0 : decode cX0_signAt 0 = .ok (.iload_n 1, 1) := by decide +kernel
theorem dX0_signAt_1 : decode cX0_signAt 1 = .ok (.ifCond .lt 21, 3) := by decide +kernel
theorem dX0_signAt_4 : decode cX0_signAt 4 = .ok (.iload_n 1, 1) := by decide +kernel
theorem dX0_signAt_5 : decode cX0_signAt 5 = .ok (.aload_n 0, 1) := by decide +kernel
theorem dX0_signAt_6 : decode cX0_signAt 6 = .ok (.getfield 9, 3) := by decide +kernel
theorem dX0_signAt_9 : decode cX0_signAt 9 = .ok (.arraylength, 1) := by decide +kernel
theorem dX0_signAt_10 : decode cX0_signAt 10 = .ok (.if_icmp .ge 12, 3) := by decide +kernel
theorem dX0_signAt_13 : decode cX0_signAt 13 = .ok (.aload_n 0, 1) := by decide +kernel
theorem dX0_signAt_14 : decode cX0_signAt 14 = .ok (.getfield 9, 3) := by decide +kernel
theorem dX0_signAt_17 : decode cX0_signAt 17 = .ok (.iload_n 1, 1) := by decide +kernel
theorem dX0_signAt_18 : decode cX0_signAt 18 = .ok (.caload, 1) := by decide +kernel
theorem dX0_signAt_19 : decode cX0_signAt 19 = .ok (.goto 4, 3) := by decide +kernel
theorem dX0_signAt_22 : decode cX0_signAt 22 = .ok (.iconst 0, 1) := by decide +kernel
theorem dX0_signAt_23 : decode cX0_signAt 23 = .ok (.ireturn, 1) := by decide +kernel
theorem dX0_firstWrong_0 : decode cX0_firstWrong 0 = .ok (.iconst 0, 1) := by decide +kernel
theorem dX0_firstWrong_1 : decode cX0_firstWrong 1 = .ok (.istore_n 1, 1) := by decide +kernel
theorem dX0_firstWrong_2 : decode cX0_firstWrong 2 = .ok (.iconst 0, 1) := by decide +kernel
theorem dX0_firstWrong_3 : decode cX0_firstWrong 3 = .ok (.istore_n 2, 1) := by decide +kernel
theorem dX0_firstWrong_4 : decode cX0_firstWrong 4 = .ok (.iload_n 2, 1) := by decide +kernel
theorem dX0_firstWrong_5 : decode cX0_firstWrong 5 = .ok (.aload_n 0, 1) := by decide +kernel
theorem dX0_firstWrong_6 : decode cX0_firstWrong 6 = .ok (.getfield 22, 3) := by decide +kernel
theorem dX0_firstWrong_9 : decode cX0_firstWrong 9 = .ok (.if_icmp .ge 26, 3) := by decide +kernel
theorem dX0_firstWrong_12 : decode cX0_firstWrong 12 = .ok (.iload_n 1, 1) := by decide +kernel
theorem dX0_firstWrong_13 : decode cX0_firstWrong 13 = .ok (.aload_n 0, 1) := by decide +kernel
theorem dX0_firstWrong_14 : decode cX0_firstWrong 14 = .ok (.iload_n 2, 1) := by decide +kernel
theorem dX0_firstWrong_15 : decode cX0_firstWrong 15 = .ok (.invokevirtual 26, 3) := by decide +kernel
theorem dX0_firstWrong_18 : decode cX0_firstWrong 18 = .ok (.invokestatic 30, 3) := by decide +kernel
theorem dX0_firstWrong_21 : decode cX0_firstWrong 21 = .ok (.istore_n 1, 1) := by decide +kernel
theorem dX0_firstWrong_22 : decode cX0_firstWrong 22 = .ok (.iload_n 1, 1) := by decide +kernel
theorem dX0_firstWrong_23 : decode cX0_firstWrong 23 = .ok (.iconst (-1), 1) := by decide +kernel
theorem dX0_firstWrong_24 : decode cX0_firstWrong 24 = .ok (.if_icmp .ne 5, 3) := by decide +kernel
theorem dX0_firstWrong_27 : decode cX0_firstWrong 27 = .ok (.iload_n 2, 1) := by decide +kernel
theorem dX0_firstWrong_28 : decode cX0_firstWrong 28 = .ok (.ireturn, 1) := by decide +kernel
theorem dX0_firstWrong_29 : decode cX0_firstWrong 29 = .ok (.iinc 2 1, 3) := by decide +kernel
theorem dX0_firstWrong_32 : decode cX0_firstWrong 32 = .ok (.goto (-28), 3) := by decide +kernel
theorem dX0_firstWrong_35 : decode cX0_firstWrong 35 = .ok (.aload_n 0, 1) := by decide +kernel
theorem dX0_firstWrong_36 : decode cX0_firstWrong 36 = .ok (.getfield 22, 3) := by decide +kernel
theorem dX0_firstWrong_39 : decode cX0_firstWrong 39 = .ok (.ireturn, 1) := by decide +kernel
theorem dX0_isComplete_0 : decode cX0_isComplete 0 = .ok (.iconst 0, 1) := by decide +kernel
theorem dX0_isComplete_1 : decode cX0_isComplete 1 = .ok (.istore_n 1, 1) := by decide +kernel
theorem dX0_isComplete_2 : decode cX0_isComplete 2 = .ok (.iconst 0, 1) := by decide +kernel
theorem dX0_isComplete_3 : decode cX0_isComplete 3 = .ok (.istore_n 2, 1) := by decide +kernel
theorem dX0_isComplete_4 : decode cX0_isComplete 4 = .ok (.iload_n 2, 1) := by decide +kernel
theorem dX0_isComplete_5 : decode cX0_isComplete 5 = .ok (.aload_n 0, 1) := by decide +kernel
theorem dX0_isComplete_6 : decode cX0_isComplete 6 = .ok (.getfield 22, 3) := by decide +kernel
theorem dX0_isComplete_9 : decode cX0_isComplete 9 = .ok (.if_icmp .ge 24, 3) := by decide +kernel
theorem dX0_isComplete_12 : decode cX0_isComplete 12 = .ok (.iload_n 1, 1) := by decide +kernel
theorem dX0_isComplete_13 : decode cX0_isComplete 13 = .ok (.iconst (-1), 1) := by decide +kernel
theorem dX0_isComplete_14 : decode cX0_isComplete 14 = .ok (.if_icmp .eq 19, 3) := by decide +kernel
theorem dX0_isComplete_17 : decode cX0_isComplete 17 = .ok (.iload_n 1, 1) := by decide +kernel
theorem dX0_isComplete_18 : decode cX0_isComplete 18 = .ok (.aload_n 0, 1) := by decide +kernel
theorem dX0_isComplete_19 : decode cX0_isComplete 19 = .ok (.iload_n 2, 1) := by decide +kernel
theorem dX0_isComplete_20 : decode cX0_isComplete 20 = .ok (.invokevirtual 26, 3) := by decide +kernel
theorem dX0_isComplete_23 : decode cX0_isComplete 23 = .ok (.invokestatic 30, 3) := by decide +kernel
theorem dX0_isComplete_26 : decode cX0_isComplete 26 = .ok (.istore_n 1, 1) := by decide +kernel
theorem dX0_isComplete_27 : decode cX0_isComplete 27 = .ok (.iinc 2 1, 3) := by decide +kernel
theorem dX0_isComplete_30 : decode cX0_isComplete 30 = .ok (.goto (-26), 3) := by decide +kernel
theorem dX0_isComplete_33 : decode cX0_isComplete 33 = .ok (.iload_n 1, 1) := by decide +kernel
theorem dX0_isComplete_34 : decode cX0_isComplete 34 = .ok (.iconst 1, 1) := by decide +kernel
theorem dX0_isComplete_35 : decode cX0_isComplete 35 = .ok (.if_icmp .eq 13, 3) := by decide +kernel
theorem dX0_isComplete_38 : decode cX0_isComplete 38 = .ok (.iload_n 1, 1) := by decide +kernel
theorem dX0_isComplete_39 : decode cX0_isComplete 39 = .ok (.iconst 3, 1) := by decide +kernel
theorem dX0_isComplete_40 : decode cX0_isComplete 40 = .ok (.if_icmp .eq 8, 3) := by decide +kernel
theorem dX0_isComplete_43 : decode cX0_isComplete 43 = .ok (.iload_n 1, 1) := by decide +kernel
theorem dX0_isComplete_44 : decode cX0_isComplete 44 = .ok (.iconst 4, 1) := by decide +kernel
theorem dX0_isComplete_45 : decode cX0_isComplete 45 = .ok (.if_icmp .ne 7, 3) := by decide +kernel
theorem dX0_isComplete_48 : decode cX0_isComplete 48 = .ok (.iconst 1, 1) := by decide +kernel
theorem dX0_isComplete_49 : decode cX0_isComplete 49 = .ok (.goto 4, 3) := by decide +kernel
theorem dX0_isComplete_52 : decode cX0_isComplete 52 = .ok (.iconst 0, 1) := by decide +kernel
theorem dX0_isComplete_53 : decode cX0_isComplete 53 = .ok (.ireturn, 1) := by decide +kernel
theorem dX0_readParts_0 : decode cX0_readParts 0 = .ok (.aload_n 0, 1) := by decide +kernel
theorem dX0_readParts_1 : decode cX0_readParts 1 = .ok (.iconst 0, 1) := by decide +kernel
theorem dX0_readParts_2 : decode cX0_readParts 2 = .ok (.putfield 34, 3) := by decide +kernel
theorem dX0_readParts_5 : decode cX0_readParts 5 = .ok (.iconst 0, 1) := by decide +kernel
theorem dX0_readParts_6 : decode cX0_readParts 6 = .ok (.istore_n 1, 1) := by decide +kernel
theorem dX0_readParts_7 : decode cX0_readParts 7 = .ok (.iconst 0, 1) := by decide +kernel
theorem dX0_readParts_8 : decode cX0_readParts 8 = .ok (.istore_n 2, 1) := by decide +kernel
theorem dX0_readParts_9 : decode cX0_readParts 9 = .ok (.iload_n 2, 1) := by decide +kernel
theorem dX0_readParts_10 : decode cX0_readParts 10 = .ok (.aload_n 0, 1) := by decide +kernel
theorem dX0_readParts_11 : decode cX0_readParts 11 = .ok (.getfield 22, 3) := by decide +kernel
theorem dX0_readParts_14 : decode cX0_readParts 14 = .ok (.if_icmp .ge 115, 3) := by decide +kernel
theorem dX0_readParts_17 : decode cX0_readParts 17 = .ok (.aload_n 0, 1) := by decide +kernel
theorem dX0_readParts_18 : decode cX0_readParts 18 = .ok (.getfield 34, 3) := by decide +kernel
theorem dX0_readParts_21 : decode cX0_readParts 21 = .ok (.aload_n 0, 1) := by decide +kernel
theorem dX0_readParts_22 : decode cX0_readParts 22 = .ok (.getfield 15, 3) := by decide +kernel
theorem dX0_readParts_25 : decode cX0_readParts 25 = .ok (.arraylength, 1) := by decide +kernel
theorem dX0_readParts_26 : decode cX0_readParts 26 = .ok (.if_icmp .ge 103, 3) := by decide +kernel
theorem dX0_readParts_29 : decode cX0_readParts 29 = .ok (.aload_n 0, 1) := by decide +kernel
theorem dX0_readParts_30 : decode cX0_readParts 30 = .ok (.getfield 15, 3) := by decide +kernel
theorem dX0_readParts_33 : decode cX0_readParts 33 = .ok (.aload_n 0, 1) := by decide +kernel
theorem dX0_readParts_34 : decode cX0_readParts 34 = .ok (.getfield 34, 3) := by decide +kernel
theorem dX0_readParts_37 : decode cX0_readParts 37 = .ok (.aload_n 0, 1) := by decide +kernel
theorem dX0_readParts_38 : decode cX0_readParts 38 = .ok (.iload_n 2, 1) := by decide +kernel
theorem dX0_readParts_39 : decode cX0_readParts 39 = .ok (.invokevirtual 26, 3) := by decide +kernel
theorem dX0_readParts_42 : decode cX0_readParts 42 = .ok (.invokestatic 37, 3) := by decide +kernel
theorem dX0_readParts_45 : decode cX0_readParts 45 = .ok (.iastore, 1) := by decide +kernel
theorem dX0_readParts_46 : decode cX0_readParts 46 = .ok (.iinc 2 1, 3) := by decide +kernel
theorem dX0_readParts_49 : decode cX0_readParts 49 = .ok (.iconst 0, 1) := by decide +kernel
theorem dX0_readParts_50 : decode cX0_readParts 50 = .ok (.istore_n 3, 1) := by decide +kernel
theorem dX0_readParts_51 : decode cX0_readParts 51 = .ok (.iload_n 2, 1) := by decide +kernel
theorem dX0_readParts_52 : decode cX0_readParts 52 = .ok (.aload_n 0, 1) := by decide +kernel
theorem dX0_readParts_53 : decode cX0_readParts 53 = .ok (.getfield 22, 3) := by decide +kernel
theorem dX0_readParts_56 : decode cX0_readParts 56 = .ok (.if_icmp .ge 34, 3) := by decide +kernel
theorem dX0_readParts_59 : decode cX0_readParts 59 = .ok (.aload_n 0, 1) := by decide +kernel
theorem dX0_readParts_60 : decode cX0_readParts 60 = .ok (.iload_n 2, 1) := by decide +kernel
theorem dX0_readParts_61 : decode cX0_readParts 61 = .ok (.invokevirtual 26, 3) := by decide +kernel
theorem dX0_readParts_64 : decode cX0_readParts 64 = .ok (.invokestatic 41, 3) := by decide +kernel
theorem dX0_readParts_67 : decode cX0_readParts 67 = .ok (.ifCond .eq 23, 3) := by decide +kernel
theorem dX0_readParts_70 : decode cX0_readParts 70 = .ok (.iload_n 3, 1) := by decide +kernel
theorem dX0_readParts_71 : decode cX0_readParts 71 = .ok (.bipush 10, 2) := by decide +kernel
theorem dX0_readParts_73 : decode cX0_readParts 73 = .ok (.imul, 1) := by decide +kernel
theorem dX0_readParts_74 : decode cX0_readParts 74 = .ok (.aload_n 0, 1) := by decide +kernel
theorem dX0_readParts_75 : decode cX0_readParts 75 = .ok (.iload_n 2, 1) := by decide +kernel
theorem dX0_readParts_76 : decode cX0_readParts 76 = .ok (.invokevirtual 26, 3) := by decide +kernel
theorem dX0_readParts_79 : decode cX0_readParts 79 = .ok (.bipush 48, 2) := by decide +kernel
theorem dX0_readParts_81 : decode cX0_readParts 81 = .ok (.isub, 1) := by decide +kernel
theorem dX0_readParts_82 : decode cX0_readParts 82 = .ok (.iadd, 1) := by decide +kernel
theorem dX0_readParts_83 : decode cX0_readParts 83 = .ok (.istore_n 3, 1) := by decide +kernel
theorem dX0_readParts_84 : decode cX0_readParts 84 = .ok (.iinc 2 1, 3) := by decide +kernel
theorem dX0_readParts_87 : decode cX0_readParts 87 = .ok (.goto (-36), 3) := by decide +kernel
theorem dX0_readParts_90 : decode cX0_readParts 90 = .ok (.aload_n 0, 1) := by decide +kernel
theorem dX0_readParts_91 : decode cX0_readParts 91 = .ok (.getfield 19, 3) := by decide +kernel
theorem dX0_readParts_94 : decode cX0_readParts 94 = .ok (.aload_n 0, 1) := by decide +kernel
theorem dX0_readParts_95 : decode cX0_readParts 95 = .ok (.getfield 34, 3) := by decide +kernel
theorem dX0_readParts_98 : decode cX0_readParts 98 = .ok (.iconst 1, 1) := by decide +kernel
theorem dX0_readParts_99 : decode cX0_readParts 99 = .ok (.iload_n 3, 1) := by decide +kernel
theorem dX0_readParts_100 : decode cX0_readParts 100 = .ok (.invokestatic 45, 3) := by decide +kernel
theorem dX0_readParts_103 : decode cX0_readParts 103 = .ok (.iastore, 1) := by decide +kernel
theorem dX0_readParts_104 : decode cX0_readParts 104 = .ok (.iload_n 1, 1) := by decide +kernel
theorem dX0_readParts_105 : decode cX0_readParts 105 = .ok (.aload_n 0, 1) := by decide +kernel
theorem dX0_readParts_106 : decode cX0_readParts 106 = .ok (.getfield 19, 3) := by decide +kernel
theorem dX0_readParts_109 : decode cX0_readParts 109 = .ok (.aload_n 0, 1) := by decide +kernel
theorem dX0_readParts_110 : decode cX0_readParts 110 = .ok (.getfield 34, 3) := by decide +kernel
theorem dX0_readParts_113 : decode cX0_readParts 113 = .ok (.iaload, 1) := by decide +kernel
theorem dX0_readParts_114 : decode cX0_readParts 114 = .ok (.iadd, 1) := by decide +kernel
theorem dX0_readParts_115 : decode cX0_readParts 115 = .ok (.istore_n 1, 1) := by decide +kernel
theorem dX0_readParts_116 : decode cX0_readParts 116 = .ok (.aload_n 0, 1) := by decide +kernel
theorem dX0_readParts_117 : decode cX0_readParts 117 = .ok (.dup, 1) := by decide +kernel
theorem dX0_readParts_118 : decode cX0_readParts 118 = .ok (.getfield 34, 3) := by decide +kernel
theorem dX0_readParts_121 : decode cX0_readParts 121 = .ok (.iconst 1, 1) := by decide +kernel
theorem dX0_readParts_122 : decode cX0_readParts 122 = .ok (.iadd, 1) := by decide +kernel
theorem dX0_readParts_123 : decode cX0_readParts 123 = .ok (.putfield 34, 3) := by decide +kernel
theorem dX0_readParts_126 : decode cX0_readParts 126 = .ok (.goto (-117), 3) := by decide +kernel
theorem dX0_readParts_129 : decode cX0_readParts 129 = .ok (.iload_n 1, 1) := by decide +kernel
theorem dX0_readParts_130 : decode cX0_readParts 130 = .ok (.ireturn, 1) := by decide +kernel
theorem dX0_after_0 : decode cX0_after 0 = .ok (.iload_n 1, 1) := by decide +kernel
theorem dX0_after_1 : decode cX0_after 1 = .ok (.invokestatic 37, 3) := by decide +kernel
theorem dX0_after_4 : decode cX0_after 4 = .ok (.iconst (-1), 1) := by decide +kernel
theorem dX0_after_5 : decode cX0_after 5 = .ok (.if_icmp .eq 14, 3) := by decide +kernel
theorem dX0_after_8 : decode cX0_after 8 = .ok (.iload_n 0, 1) := by decide +kernel
theorem dX0_after_9 : decode cX0_after 9 = .ok (.iconst 2, 1) := by decide +kernel
theorem dX0_after_10 : decode cX0_after 10 = .ok (.if_icmp .ne 7, 3) := by decide +kernel
theorem dX0_after_13 : decode cX0_after 13 = .ok (.iconst (-1), 1) := by decide +kernel
theorem dX0_after_14 : decode cX0_after 14 = .ok (.goto 4, 3) := by decide +kernel
theorem dX0_after_17 : decode cX0_after 17 = .ok (.iconst 1, 1) := by decide +kernel
theorem dX0_after_18 : decode cX0_after 18 = .ok (.ireturn, 1) := by decide +kernel
theorem dX0_after_19 : decode cX0_after 19 = .ok (.iload_n 1, 1) := by decide +kernel
theorem dX0_after_20 : decode cX0_after 20 = .ok (.invokestatic 41, 3) := by decide +kernel
theorem dX0_after_23 : decode cX0_after 23 = .ok (.ifCond .ne 5, 3) := by decide +kernel
theorem dX0_after_26 : decode cX0_after 26 = .ok (.iconst (-1), 1) := by decide +kernel
theorem dX0_after_27 : decode cX0_after 27 = .ok (.ireturn, 1) := by decide +kernel
theorem dX0_after_28 : decode cX0_after 28 = .ok (.iload_n 0, 1) := by decide +kernel
theorem dX0_after_29 : decode cX0_after 29 = .ok (.tableswitch 49 1 3 #[27, 47, 47], 27) := by decide +kernel
theorem dX0_after_56 : decode cX0_after 56 = .ok (.iload_n 1, 1) := by decide +kernel
theorem dX0_after_57 : decode cX0_after 57 = .ok (.bipush 48, 2) := by decide +kernel
theorem dX0_after_59 : decode cX0_after 59 = .ok (.if_icmp .ne 5, 3) := by decide +kernel
theorem dX0_after_62 : decode cX0_after 62 = .ok (.iconst (-1), 1) := by decide +kernel
theorem dX0_after_63 : decode cX0_after 63 = .ok (.ireturn, 1) := by decide +kernel
theorem dX0_after_64 : decode cX0_after 64 = .ok (.iload_n 1, 1) := by decide +kernel
theorem dX0_after_65 : decode cX0_after 65 = .ok (.bipush 49, 2) := by decide +kernel
theorem dX0_after_67 : decode cX0_after 67 = .ok (.if_icmp .ne 7, 3) := by decide +kernel
theorem dX0_after_70 : decode cX0_after 70 = .ok (.iconst 2, 1) := by decide +kernel
theorem dX0_after_71 : decode cX0_after 71 = .ok (.goto 4, 3) := by decide +kernel
theorem dX0_after_74 : decode cX0_after 74 = .ok (.iconst 3, 1) := by decide +kernel
theorem dX0_after_75 : decode cX0_after 75 = .ok (.ireturn, 1) := by decide +kernel
theorem dX0_after_76 : decode cX0_after 76 = .ok (.iconst 4, 1) := by decide +kernel
theorem dX0_after_77 : decode cX0_after 77 = .ok (.ireturn, 1) := by decide +kernel
theorem dX0_after_78 : decode cX0_after 78 = .ok (.iconst (-1), 1) := by decide +kernel
theorem dX0_after_79 : decode cX0_after 79 = .ok (.ireturn, 1) := by decide +kernel
theorem dX0_isDigit_0 : decode cX0_isDigit 0 = .ok (.iload_n 0, 1) := by decide +kernel
theorem dX0_isDigit_1 : decode cX0_isDigit 1 = .ok (.bipush 48, 2) := by decide +kernel
theorem dX0_isDigit_3 : decode cX0_isDigit 3 = .ok (.if_icmp .lt 13, 3) := by decide +kernel
theorem dX0_isDigit_6 : decode cX0_isDigit 6 = .ok (.iload_n 0, 1) := by decide +kernel
theorem dX0_isDigit_7 : decode cX0_isDigit 7 = .ok (.bipush 57, 2) := by decide +kernel
theorem dX0_isDigit_9 : decode cX0_isDigit 9 = .ok (.if_icmp .gt 7, 3) := by decide +kernel
theorem dX0_isDigit_12 : decode cX0_isDigit 12 = .ok (.iconst 1, 1) := by decide +kernel
theorem dX0_isDigit_13 : decode cX0_isDigit 13 = .ok (.goto 4, 3) := by decide +kernel
theorem dX0_isDigit_16 : decode cX0_isDigit 16 = .ok (.iconst 0, 1) := by decide +kernel
theorem dX0_isDigit_17 : decode cX0_isDigit 17 = .ok (.ireturn, 1) := by decide +kernel
theorem dX0_weatherOf_0 : decode cX0_weatherOf 0 = .ok (.iload_n 0, 1) := by decide +kernel
theorem dX0_weatherOf_1 : decode cX0_weatherOf 1 = .ok (.lookupswitch 41 #[(100, 35), (114, 37), (115, 39)], 35) := by decide +kernel
theorem dX0_weatherOf_36 : decode cX0_weatherOf 36 = .ok (.iconst 0, 1) := by decide +kernel
theorem dX0_weatherOf_37 : decode cX0_weatherOf 37 = .ok (.ireturn, 1) := by decide +kernel
theorem dX0_weatherOf_38 : decode cX0_weatherOf 38 = .ok (.iconst 1, 1) := by decide +kernel
theorem dX0_weatherOf_39 : decode cX0_weatherOf 39 = .ok (.ireturn, 1) := by decide +kernel
theorem dX0_weatherOf_40 : decode cX0_weatherOf 40 = .ok (.iconst 2, 1) := by decide +kernel
theorem dX0_weatherOf_41 : decode cX0_weatherOf 41 = .ok (.ireturn, 1) := by decide +kernel
theorem dX0_weatherOf_42 : decode cX0_weatherOf 42 = .ok (.iconst (-1), 1) := by decide +kernel
theorem dX0_weatherOf_43 : decode cX0_weatherOf 43 = .ok (.ireturn, 1) := by decide +kernel
theorem dX1_init_0 : decode cX1_init 0 = .ok (.aload_n 0, 1) := by decide +kernel
theorem dX1_init_1 : decode cX1_init 1 = .ok (.invokespecial 3, 3) := by decide +kernel
theorem dX1_init_4 : decode cX1_init 4 = .ok (.aload_n 0, 1) := by decide +kernel
theorem dX1_init_5 : decode cX1_init 5 = .ok (.bipush 100, 2) := by decide +kernel
theorem dX1_init_7 : decode cX1_init 7 = .ok (.putfield 9, 3) := by decide +kernel
theorem dX1_init_10 : decode cX1_init 10 = .ok (.aload_n 0, 1) := by decide +kernel
theorem dX1_init_11 : decode cX1_init 11 = .ok (.bipush 6, 2) := by decide +kernel
theorem dX1_init_13 : decode cX1_init 13 = .ok (.putfield 15, 3) := by decide +kernel
theorem dX1_init_16 : decode cX1_init 16 = .ok (.aload_n 0, 1) := by decide +kernel
theorem dX1_init_17 : decode cX1_init 17 = .ok (.bipush 100, 2) := by decide +kernel
theorem dX1_init_19 : decode cX1_init 19 = .ok (.newarray .int, 2) := by decide +kernel
theorem dX1_init_21 : decode cX1_init 21 = .ok (.putfield 18, 3) := by decide +kernel
theorem dX1_init_24 : decode cX1_init 24 = .ok (.aload_n 0, 1) := by decide +kernel
theorem dX1_init_25 : decode cX1_init 25 = .ok (.bipush 100, 2) := by decide +kernel
theorem dX1_init_27 : decode cX1_init 27 = .ok (.newarray .int, 2) := by decide +kernel
theorem dX1_init_29 : decode cX1_init 29 = .ok (.putfield 22, 3) := by decide +kernel
theorem dX1_init_32 : decode cX1_init 32 = .ok (.aload_n 0, 1) := by decide +kernel
theorem dX1_init_33 : decode cX1_init 33 = .ok (.bipush 25, 2) := by decide +kernel
theorem dX1_init_35 : decode cX1_init 35 = .ok (.newarray .int, 2) := by decide +kernel
theorem dX1_init_37 : decode cX1_init 37 = .ok (.putfield 25, 3) := by decide +kernel
theorem dX1_init_40 : decode cX1_init 40 = .ok (.aload_n 0, 1) := by decide +kernel
theorem dX1_init_41 : decode cX1_init 41 = .ok (.bipush 25, 2) := by decide +kernel
theorem dX1_init_43 : decode cX1_init 43 = .ok (.newarray .int, 2) := by decide +kernel
theorem dX1_init_45 : decode cX1_init 45 = .ok (.putfield 28, 3) := by decide +kernel
theorem dX1_init_48 : decode cX1_init 48 = .ok (.aload_n 0, 1) := by decide +kernel
theorem dX1_init_49 : decode cX1_init 49 = .ok (.bipush 25, 2) := by decide +kernel
theorem dX1_init_51 : decode cX1_init 51 = .ok (.newarray .int, 2) := by decide +kernel
theorem dX1_init_53 : decode cX1_init 53 = .ok (.putfield 31, 3) := by decide +kernel
theorem dX1_init_56 : decode cX1_init 56 = .ok (.aload_n 0, 1) := by decide +kernel
theorem dX1_init_57 : decode cX1_init 57 = .ok (.iconst 4, 1) := by decide +kernel
theorem dX1_init_58 : decode cX1_init 58 = .ok (.putfield 34, 3) := by decide +kernel
theorem dX1_init_61 : decode cX1_init 61 = .ok (.aload_n 0, 1) := by decide +kernel
theorem dX1_init_62 : decode cX1_init 62 = .ok (.bipush 20, 2) := by decide +kernel
theorem dX1_init_64 : decode cX1_init 64 = .ok (.putfield 37, 3) := by decide +kernel
theorem dX1_init_67 : decode cX1_init 67 = .ok (.aload_n 0, 1) := by decide +kernel
theorem dX1_init_68 : decode cX1_init 68 = .ok (.iconst 2, 1) := by decide +kernel
theorem dX1_init_69 : decode cX1_init 69 = .ok (.putfield 40, 3) := by decide +kernel
theorem dX1_init_72 : decode cX1_init 72 = .ok (.aload_n 0, 1) := by decide +kernel
theorem dX1_init_73 : decode cX1_init 73 = .ok (.bipush 20, 2) := by decide +kernel
theorem dX1_init_75 : decode cX1_init 75 = .ok (.putfield 43, 3) := by decide +kernel
theorem dX1_init_78 : decode cX1_init 78 = .ok (.return_, 1) := by decide +kernel
theorem dX1_copyFrom_0 : decode cX1_copyFrom 0 = .ok (.aload_n 0, 1) := by decide +kernel
theorem dX1_copyFrom_1 : decode cX1_copyFrom 1 = .ok (.aload_n 1, 1) := by decide +kernel
theorem dX1_copyFrom_2 : decode cX1_copyFrom 2 = .ok (.getfield 9, 3) := by decide +kernel
theorem dX1_copyFrom_5 : decode cX1_copyFrom 5 = .ok (.putfield 9, 3) := by decide +kernel
theorem dX1_copyFrom_8 : decode cX1_copyFrom 8 = .ok (.aload_n 0, 1) := by decide +kernel
theorem dX1_copyFrom_9 : decode cX1_copyFrom 9 = .ok (.aload_n 1, 1) := by decide +kernel
theorem dX1_copyFrom_10 : decode cX1_copyFrom 10 = .ok (.getfield 15, 3) := by decide +kernel
theorem dX1_copyFrom_13 : decode cX1_copyFrom 13 = .ok (.putfield 15, 3) := by decide +kernel
theorem dX1_copyFrom_16 : decode cX1_copyFrom 16 = .ok (.aload_n 0, 1) := by decide +kernel
theorem dX1_copyFrom_17 : decode cX1_copyFrom 17 = .ok (.aload_n 1, 1) := by decide +kernel
theorem dX1_copyFrom_18 : decode cX1_copyFrom 18 = .ok (.getfield 46, 3) := by decide +kernel
theorem dX1_copyFrom_21 : decode cX1_copyFrom 21 = .ok (.putfield 46, 3) := by decide +kernel
theorem dX1_copyFrom_24 : decode cX1_copyFrom 24 = .ok (.aload_n 1, 1) := by decide +kernel
theorem dX1_copyFrom_25 : decode cX1_copyFrom 25 = .ok (.getfield 18, 3) := by decide +kernel
theorem dX1_copyFrom_28 : decode cX1_copyFrom 28 = .ok (.aload_n 0, 1) := by decide +kernel
theorem dX1_copyFrom_29 : decode cX1_copyFrom 29 = .ok (.getfield 18, 3) := by decide +kernel
theorem dX1_copyFrom_32 : decode cX1_copyFrom 32 = .ok (.invokestatic 49, 3) := by decide +kernel
theorem dX1_copyFrom_35 : decode cX1_copyFrom 35 = .ok (.aload_n 1, 1) := by decide +kernel
theorem dX1_copyFrom_36 : decode cX1_copyFrom 36 = .ok (.getfield 22, 3) := by decide +kernel
theorem dX1_copyFrom_39 : decode cX1_copyFrom 39 = .ok (.aload_n 0, 1) := by decide +kernel
theorem dX1_copyFrom_40 : decode cX1_copyFrom 40 = .ok (.getfield 22, 3) := by decide +kernel
theorem dX1_copyFrom_43 : decode cX1_copyFrom 43 = .ok (.invokestatic 49, 3) := by decide +kernel
theorem dX1_copyFrom_46 : decode cX1_copyFrom 46 = .ok (.aload_n 1, 1) := by decide +kernel
theorem dX1_copyFrom_47 : decode cX1_copyFrom 47 = .ok (.getfield 25, 3) := by decide +kernel
theorem dX1_copyFrom_50 : decode cX1_copyFrom 50 = .ok (.aload_n 0, 1) := by decide +kernel
theorem dX1_copyFrom_51 : decode cX1_copyFrom 51 = .ok (.getfield 25, 3) := by decide +kernel
theorem dX1_copyFrom_54 : decode cX1_copyFrom 54 = .ok (.invokestatic 49, 3) := by decide +kernel
theorem dX1_copyFrom_57 : decode cX1_copyFrom 57 = .ok (.aload_n 1, 1) := by decide +kernel
theorem dX1_copyFrom_58 : decode cX1_copyFrom 58 = .ok (.getfield 28, 3) := by decide +kernel
theorem dX1_copyFrom_61 : decode cX1_copyFrom 61 = .ok (.aload_n 0, 1) := by decide +kernel
theorem dX1_copyFrom_62 : decode cX1_copyFrom 62 = .ok (.getfield 28, 3) := by decide +kernel
theorem dX1_copyFrom_65 : decode cX1_copyFrom 65 = .ok (.invokestatic 49, 3) := by decide +kernel
theorem dX1_copyFrom_68 : decode cX1_copyFrom 68 = .ok (.aload_n 1, 1) := by decide +kernel
theorem dX1_copyFrom_69 : decode cX1_copyFrom 69 = .ok (.getfield 31, 3) := by decide +kernel
theorem dX1_copyFrom_72 : decode cX1_copyFrom 72 = .ok (.aload_n 0, 1) := by decide +kernel
theorem dX1_copyFrom_73 : decode cX1_copyFrom 73 = .ok (.getfield 31, 3) := by decide +kernel
theorem dX1_copyFrom_76 : decode cX1_copyFrom 76 = .ok (.invokestatic 49, 3) := by decide +kernel
theorem dX1_copyFrom_79 : decode cX1_copyFrom 79 = .ok (.aload_n 0, 1) := by decide +kernel
theorem dX1_copyFrom_80 : decode cX1_copyFrom 80 = .ok (.aload_n 1, 1) := by decide +kernel
theorem dX1_copyFrom_81 : decode cX1_copyFrom 81 = .ok (.getfield 34, 3) := by decide +kernel
theorem dX1_copyFrom_84 : decode cX1_copyFrom 84 = .ok (.putfield 34, 3) := by decide +kernel
theorem dX1_copyFrom_87 : decode cX1_copyFrom 87 = .ok (.aload_n 0, 1) := by decide +kernel
theorem dX1_copyFrom_88 : decode cX1_copyFrom 88 = .ok (.aload_n 1, 1) := by decide +kernel
theorem dX1_copyFrom_89 : decode cX1_copyFrom 89 = .ok (.getfield 37, 3) := by decide +kernel
theorem dX1_copyFrom_92 : decode cX1_copyFrom 92 = .ok (.putfield 37, 3) := by decide +kernel
theorem dX1_copyFrom_95 : decode cX1_copyFrom 95 = .ok (.aload_n 0, 1) := by decide +kernel
theorem dX1_copyFrom_96 : decode cX1_copyFrom 96 = .ok (.aload_n 1, 1) := by decide +kernel
theorem dX1_copyFrom_97 : decode cX1_copyFrom 97 = .ok (.getfield 40, 3) := by decide +kernel
theorem dX1_copyFrom_100 : decode cX1_copyFrom 100 = .ok (.putfield 40, 3) := by decide +kernel
theorem dX1_copyFrom_103 : decode cX1_copyFrom 103 = .ok (.aload_n 0, 1) := by decide +kernel
theorem dX1_copyFrom_104 : decode cX1_copyFrom 104 = .ok (.aload_n 1, 1) := by decide +kernel
theorem dX1_copyFrom_105 : decode cX1_copyFrom 105 = .ok (.getfield 53, 3) := by decide +kernel
theorem dX1_copyFrom_108 : decode cX1_copyFrom 108 = .ok (.putfield 53, 3) := by decide +kernel
theorem dX1_copyFrom_111 : decode cX1_copyFrom 111 = .ok (.aload_n 0, 1) := by decide +kernel
theorem dX1_copyFrom_112 : decode cX1_copyFrom 112 = .ok (.aload_n 1, 1) := by decide +kernel
theorem dX1_copyFrom_113 : decode cX1_copyFrom 113 = .ok (.getfield 43, 3) := by decide +kernel
theorem dX1_copyFrom_116 : decode cX1_copyFrom 116 = .ok (.putfield 43, 3) := by decide +kernel
theorem dX1_copyFrom_119 : decode cX1_copyFrom 119 = .ok (.aload_n 0, 1) := by decide +kernel
theorem dX1_copyFrom_120 : decode cX1_copyFrom 120 = .ok (.aload_n 1, 1) := by decide +kernel
theorem dX1_copyFrom_121 : decode cX1_copyFrom 121 = .ok (.getfield 56, 3) := by decide +kernel
theorem dX1_copyFrom_124 : decode cX1_copyFrom 124 = .ok (.putfield 56, 3) := by decide +kernel
theorem dX1_copyFrom_127 : decode cX1_copyFrom 127 = .ok (.aload_n 0, 1) := by decide +kernel
theorem dX1_copyFrom_128 : decode cX1_copyFrom 128 = .ok (.aload_n 1, 1) := by decide +kernel
theorem dX1_copyFrom_129 : decode cX1_copyFrom 129 = .ok (.getfield 59, 3) := by decide +kernel
theorem dX1_copyFrom_132 : decode cX1_copyFrom 132 = .ok (.putfield 59, 3) := by decide +kernel
theorem dX1_copyFrom_135 : decode cX1_copyFrom 135 = .ok (.aload_n 0, 1) := by decide +kernel
theorem dX1_copyFrom_136 : decode cX1_copyFrom 136 = .ok (.aload_n 1, 1) := by decide +kernel
theorem dX1_copyFrom_137 : decode cX1_copyFrom 137 = .ok (.getfield 63, 3) := by decide +kernel
theorem dX1_copyFrom_140 : decode cX1_copyFrom 140 = .ok (.putfield 63, 3) := by decide +kernel
theorem dX1_copyFrom_143 : decode cX1_copyFrom 143 = .ok (.aload_n 0, 1) := by decide +kernel
theorem dX1_copyFrom_144 : decode cX1_copyFrom 144 = .ok (.aload_n 1, 1) := by decide +kernel
theorem dX1_copyFrom_145 : decode cX1_copyFrom 145 = .ok (.getfield 66, 3) := by decide +kernel
theorem dX1_copyFrom_148 : decode cX1_copyFrom 148 = .ok (.putfield 66, 3) := by decide +kernel
theorem dX1_copyFrom_151 : decode cX1_copyFrom 151 = .ok (.aload_n 0, 1) := by decide +kernel
theorem dX1_copyFrom_152 : decode cX1_copyFrom 152 = .ok (.aload_n 1, 1) := by decide +kernel
theorem dX1_copyFrom_153 : decode cX1_copyFrom 153 = .ok (.getfield 69, 3) := by decide +kernel
theorem dX1_copyFrom_156 : decode cX1_copyFrom 156 = .ok (.putfield 69, 3) := by decide +kernel
theorem dX1_copyFrom_159 : decode cX1_copyFrom 159 = .ok (.aload_n 0, 1) := by decide +kernel
theorem dX1_copyFrom_160 : decode cX1_copyFrom 160 = .ok (.aload_n 1, 1) := by decide +kernel
theorem dX1_copyFrom_161 : decode cX1_copyFrom 161 = .ok (.getfield 72, 3) := by decide +kernel
theorem dX1_copyFrom_164 : decode cX1_copyFrom 164 = .ok (.putfield 72, 3) := by decide +kernel
theorem dX1_copyFrom_167 : decode cX1_copyFrom 167 = .ok (.return_, 1) := by decide +kernel
theorem dX1_settingOf_0 : decode cX1_settingOf 0 = .ok (.iload_n 1, 1) := by decide +kernel
theorem dX1_settingOf_1 : decode cX1_settingOf 1 = .ok (.lookupswitch 37 #[(0, 27), (1, 32)], 27) := by decide +kernel
theorem dX1_settingOf_28 : decode cX1_settingOf 28 = .ok (.aload_n 0, 1) := by decide +kernel
theorem dX1_settingOf_29 : decode cX1_settingOf 29 = .ok (.getfield 34, 3) := by decide +kernel
theorem dX1_settingOf_32 : decode cX1_settingOf 32 = .ok (.ireturn, 1) := by decide +kernel
theorem dX1_settingOf_33 : decode cX1_settingOf 33 = .ok (.aload_n 0, 1) := by decide +kernel
theorem dX1_settingOf_34 : decode cX1_settingOf 34 = .ok (.getfield 37, 3) := by decide +kernel
theorem dX1_settingOf_37 : decode cX1_settingOf 37 = .ok (.ireturn, 1) := by decide +kernel
theorem dX1_settingOf_38 : decode cX1_settingOf 38 = .ok (.aload_n 0, 1) := by decide +kernel
theorem dX1_settingOf_39 : decode cX1_settingOf 39 = .ok (.getfield 40, 3) := by decide +kernel
theorem dX1_settingOf_42 : decode cX1_settingOf 42 = .ok (.ireturn, 1) := by decide +kernel
theorem dX1_changeSetting_0 : decode cX1_changeSetting 0 = .ok (.iload_n 1, 1) := by decide +kernel
theorem dX1_changeSetting_1 : decode cX1_changeSetting 1 = .ok (.lookupswitch 43 #[(0, 27), (1, 35)], 27) := by decide +kernel
theorem dX1_changeSetting_28 : decode cX1_changeSetting 28 = .ok (.aload_n 0, 1) := by decide +kernel
theorem dX1_changeSetting_29 : decode cX1_changeSetting 29 = .ok (.iload_n 2, 1) := by decide +kernel
theorem dX1_changeSetting_30 : decode cX1_changeSetting 30 = .ok (.putfield 34, 3) := by decide +kernel
theorem dX1_changeSetting_33 : decode cX1_changeSetting 33 = .ok (.goto 16, 3) := by decide +kernel
theorem dX1_changeSetting_36 : decode cX1_changeSetting 36 = .ok (.aload_n 0, 1) := by decide +kernel
theorem dX1_changeSetting_37 : decode cX1_changeSetting 37 = .ok (.iload_n 2, 1) := by decide +kernel
theorem dX1_changeSetting_38 : decode cX1_changeSetting 38 = .ok (.putfield 37, 3) := by decide +kernel
theorem dX1_changeSetting_41 : decode cX1_changeSetting 41 = .ok (.goto 8, 3) := by decide +kernel
theorem dX1_changeSetting_44 : decode cX1_changeSetting 44 = .ok (.aload_n 0, 1) := by decide +kernel
theorem dX1_changeSetting_45 : decode cX1_changeSetting 45 = .ok (.iload_n 2, 1) := by decide +kernel
theorem dX1_changeSetting_46 : decode cX1_changeSetting 46 = .ok (.putfield 40, 3) := by decide +kernel
theorem dX1_changeSetting_49 : decode cX1_changeSetting 49 = .ok (.return_, 1) := by decide +kernel
theorem dX1_hasCourse_0 : decode cX1_hasCourse 0 = .ok (.iload_n 1, 1) := by decide +kernel
theorem dX1_hasCourse_1 : decode cX1_hasCourse 1 = .ok (.ifCond .lt 15, 3) := by decide +kernel
theorem dX1_hasCourse_4 : decode cX1_hasCourse 4 = .ok (.iload_n 1, 1) := by decide +kernel
theorem dX1_hasCourse_5 : decode cX1_hasCourse 5 = .ok (.aload_n 0, 1) := by decide +kernel
theorem dX1_hasCourse_6 : decode cX1_hasCourse 6 = .ok (.getfield 46, 3) := by decide +kernel
theorem dX1_hasCourse_9 : decode cX1_hasCourse 9 = .ok (.if_icmp .ge 7, 3) := by decide +kernel
theorem dX1_hasCourse_12 : decode cX1_hasCourse 12 = .ok (.iconst 1, 1) := by decide +kernel
theorem dX1_hasCourse_13 : decode cX1_hasCourse 13 = .ok (.goto 4, 3) := by decide +kernel
theorem dX1_hasCourse_16 : decode cX1_hasCourse 16 = .ok (.iconst 0, 1) := by decide +kernel
theorem dX1_hasCourse_17 : decode cX1_hasCourse 17 = .ok (.ireturn, 1) := by decide +kernel
theorem dX1_hasPlace_0 : decode cX1_hasPlace 0 = .ok (.aload_n 0, 1) := by decide +kernel
theorem dX1_hasPlace_1 : decode cX1_hasPlace 1 = .ok (.iload_n 1, 1) := by decide +kernel
theorem dX1_hasPlace_2 : decode cX1_hasPlace 2 = .ok (.invokevirtual 75, 3) := by decide +kernel
theorem dX1_hasPlace_5 : decode cX1_hasPlace 5 = .ok (.ifCond .eq 20, 3) := by decide +kernel
theorem dX1_hasPlace_8 : decode cX1_hasPlace 8 = .ok (.iload_n 2, 1) := by decide +kernel
theorem dX1_hasPlace_9 : decode cX1_hasPlace 9 = .ok (.ifCond .lt 16, 3) := by decide +kernel
theorem dX1_hasPlace_12 : decode cX1_hasPlace 12 = .ok (.iload_n 2, 1) := by decide +kernel
theorem dX1_hasPlace_13 : decode cX1_hasPlace 13 = .ok (.aload_n 0, 1) := by decide +kernel
theorem dX1_hasPlace_14 : decode cX1_hasPlace 14 = .ok (.iload_n 1, 1) := by decide +kernel
theorem dX1_hasPlace_15 : decode cX1_hasPlace 15 = .ok (.invokevirtual 79, 3) := by decide +kernel
theorem dX1_hasPlace_18 : decode cX1_hasPlace 18 = .ok (.if_icmp .ge 7, 3) := by decide +kernel
theorem dX1_hasPlace_21 : decode cX1_hasPlace 21 = .ok (.iconst 1, 1) := by decide +kernel
theorem dX1_hasPlace_22 : decode cX1_hasPlace 22 = .ok (.goto 4, 3) := by decide +kernel
theorem dX1_hasPlace_25 : decode cX1_hasPlace 25 = .ok (.iconst 0, 1) := by decide +kernel
theorem dX1_hasPlace_26 : decode cX1_hasPlace 26 = .ok (.ireturn, 1) := by decide +kernel
theorem dX1_placesOf_0 : decode cX1_placesOf 0 = .ok (.iload_n 1, 1) := by decide +kernel
theorem dX1_placesOf_1 : decode cX1_placesOf 1 = .ok (.iconst 2, 1) := by decide +kernel
theorem dX1_placesOf_2 : decode cX1_placesOf 2 = .ok (.irem, 1) := by decide +kernel
theorem dX1_placesOf_3 : decode cX1_placesOf 3 = .ok (.ifCond .ne 10, 3) := by decide +kernel
theorem dX1_placesOf_6 : decode cX1_placesOf 6 = .ok (.aload_n 0, 1) := by decide +kernel
theorem dX1_placesOf_7 : decode cX1_placesOf 7 = .ok (.getfield 15, 3) := by decide +kernel
theorem dX1_placesOf_10 : decode cX1_placesOf 10 = .ok (.goto 9, 3) := by decide +kernel
theorem dX1_placesOf_13 : decode cX1_placesOf 13 = .ok (.aload_n 0, 1) := by decide +kernel
theorem dX1_placesOf_14 : decode cX1_placesOf 14 = .ok (.getfield 15, 3) := by decide +kernel
theorem dX1_placesOf_17 : decode cX1_placesOf 17 = .ok (.iconst 1, 1) := by decide +kernel
theorem dX1_placesOf_18 : decode cX1_placesOf 18 = .ok (.iadd, 1) := by decide +kernel
theorem dX1_placesOf_19 : decode cX1_placesOf 19 = .ok (.ireturn, 1) := by decide +kernel
theorem dX1_hasSlate_0 : decode cX1_hasSlate 0 = .ok (.aload_n 0, 1) := by decide +kernel
theorem dX1_hasSlate_1 : decode cX1_hasSlate 1 = .ok (.getfield 22, 3) := by decide +kernel
theorem dX1_hasSlate_4 : decode cX1_hasSlate 4 = .ok (.iload_n 1, 1) := by decide +kernel
theorem dX1_hasSlate_5 : decode cX1_hasSlate 5 = .ok (.invokestatic 83, 3) := by decide +kernel
theorem dX1_hasSlate_8 : decode cX1_hasSlate 8 = .ok (.iload_n 2, 1) := by decide +kernel
theorem dX1_hasSlate_9 : decode cX1_hasSlate 9 = .ok (.iushr, 1) := by decide +kernel
theorem dX1_hasSlate_10 : decode cX1_hasSlate 10 = .ok (.iconst 1, 1) := by decide +kernel
theorem dX1_hasSlate_11 : decode cX1_hasSlate 11 = .ok (.iand, 1) := by decide +kernel
theorem dX1_hasSlate_12 : decode cX1_hasSlate 12 = .ok (.iconst 1, 1) := by decide +kernel
theorem dX1_hasSlate_13 : decode cX1_hasSlate 13 = .ok (.if_icmp .ne 7, 3) := by decide +kernel
theorem dX1_hasSlate_16 : decode cX1_hasSlate 16 = .ok (.iconst 1, 1) := by decide +kernel
theorem dX1_hasSlate_17 : decode cX1_hasSlate 17 = .ok (.goto 4, 3) := by decide +kernel
theorem dX1_hasSlate_20 : decode cX1_hasSlate 20 = .ok (.iconst 0, 1) := by decide +kernel
theorem dX1_hasSlate_21 : decode cX1_hasSlate 21 = .ok (.ireturn, 1) := by decide +kernel
theorem dX1_slatesIn_0 : decode cX1_slatesIn 0 = .ok (.aload_n 0, 1) := by decide +kernel
theorem dX1_slatesIn_1 : decode cX1_slatesIn 1 = .ok (.getfield 22, 3) := by decide +kernel
theorem dX1_slatesIn_4 : decode cX1_slatesIn 4 = .ok (.iload_n 1, 1) := by decide +kernel
theorem dX1_slatesIn_5 : decode cX1_slatesIn 5 = .ok (.invokestatic 83, 3) := by decide +kernel
theorem dX1_slatesIn_8 : decode cX1_slatesIn 8 = .ok (.invokestatic 87, 3) := by decide +kernel
theorem dX1_slatesIn_11 : decode cX1_slatesIn 11 = .ok (.ireturn, 1) := by decide +kernel
theorem dX1_isFull_0 : decode cX1_isFull 0 = .ok (.aload_n 0, 1) := by decide +kernel
theorem dX1_isFull_1 : decode cX1_isFull 1 = .ok (.iload_n 1, 1) := by decide +kernel
theorem dX1_isFull_2 : decode cX1_isFull 2 = .ok (.invokevirtual 92, 3) := by decide +kernel
theorem dX1_isFull_5 : decode cX1_isFull 5 = .ok (.aload_n 0, 1) := by decide +kernel
theorem dX1_isFull_6 : decode cX1_isFull 6 = .ok (.iload_n 1, 1) := by decide +kernel
theorem dX1_isFull_7 : decode cX1_isFull 7 = .ok (.invokevirtual 79, 3) := by decide +kernel
theorem dX1_isFull_10 : decode cX1_isFull 10 = .ok (.if_icmp .lt 7, 3) := by decide +kernel
theorem dX1_isFull_13 : decode cX1_isFull 13 = .ok (.iconst 1, 1) := by decide +kernel
theorem dX1_isFull_14 : decode cX1_isFull 14 = .ok (.goto 4, 3) := by decide +kernel
theorem dX1_isFull_17 : decode cX1_isFull 17 = .ok (.iconst 0, 1) := by decide +kernel
theorem dX1_isFull_18 : decode cX1_isFull 18 = .ok (.ireturn, 1) := by decide +kernel
theorem dX1_firstGap_0 : decode cX1_firstGap 0 = .ok (.aload_n 0, 1) := by decide +kernel
theorem dX1_firstGap_1 : decode cX1_firstGap 1 = .ok (.iload_n 1, 1) := by decide +kernel
theorem dX1_firstGap_2 : decode cX1_firstGap 2 = .ok (.invokevirtual 79, 3) := by decide +kernel
theorem dX1_firstGap_5 : decode cX1_firstGap 5 = .ok (.istore_n 2, 1) := by decide +kernel
theorem dX1_firstGap_6 : decode cX1_firstGap 6 = .ok (.iconst 0, 1) := by decide +kernel
theorem dX1_firstGap_7 : decode cX1_firstGap 7 = .ok (.istore_n 3, 1) := by decide +kernel
theorem dX1_firstGap_8 : decode cX1_firstGap 8 = .ok (.iload_n 3, 1) := by decide +kernel
theorem dX1_firstGap_9 : decode cX1_firstGap 9 = .ok (.iload_n 2, 1) := by decide +kernel
theorem dX1_firstGap_10 : decode cX1_firstGap 10 = .ok (.if_icmp .ge 20, 3) := by decide +kernel
theorem dX1_firstGap_13 : decode cX1_firstGap 13 = .ok (.aload_n 0, 1) := by decide +kernel
theorem dX1_firstGap_14 : decode cX1_firstGap 14 = .ok (.iload_n 1, 1) := by decide +kernel
theorem dX1_firstGap_15 : decode cX1_firstGap 15 = .ok (.iload_n 3, 1) := by decide +kernel
theorem dX1_firstGap_16 : decode cX1_firstGap 16 = .ok (.invokevirtual 95, 3) := by decide +kernel
theorem dX1_firstGap_19 : decode cX1_firstGap 19 = .ok (.ifCond .ne 5, 3) := by decide +kernel
theorem dX1_firstGap_22 : decode cX1_firstGap 22 = .ok (.iload_n 3, 1) := by decide +kernel
theorem dX1_firstGap_23 : decode cX1_firstGap 23 = .ok (.ireturn, 1) := by decide +kernel
theorem dX1_firstGap_24 : decode cX1_firstGap 24 = .ok (.iinc 3 1, 3) := by decide +kernel
theorem dX1_firstGap_27 : decode cX1_firstGap 27 = .ok (.goto (-19), 3) := by decide +kernel
theorem dX1_firstGap_30 : decode cX1_firstGap 30 = .ok (.iconst (-1), 1) := by decide +kernel
theorem dX1_firstGap_31 : decode cX1_firstGap 31 = .ok (.ireturn, 1) := by decide +kernel
theorem dX1_lastGap_0 : decode cX1_lastGap 0 = .ok (.aload_n 0, 1) := by decide +kernel
theorem dX1_lastGap_1 : decode cX1_lastGap 1 = .ok (.iload_n 1, 1) := by decide +kernel
theorem dX1_lastGap_2 : decode cX1_lastGap 2 = .ok (.invokevirtual 79, 3) := by decide +kernel
theorem dX1_lastGap_5 : decode cX1_lastGap 5 = .ok (.iconst 1, 1) := by decide +kernel
theorem dX1_lastGap_6 : decode cX1_lastGap 6 = .ok (.isub, 1) := by decide +kernel
theorem dX1_lastGap_7 : decode cX1_lastGap 7 = .ok (.istore_n 2, 1) := by decide +kernel
theorem dX1_lastGap_8 : decode cX1_lastGap 8 = .ok (.iload_n 2, 1) := by decide +kernel
theorem dX1_lastGap_9 : decode cX1_lastGap 9 = .ok (.ifCond .lt 20, 3) := by decide +kernel
theorem dX1_lastGap_12 : decode cX1_lastGap 12 = .ok (.aload_n 0, 1) := by decide +kernel
theorem dX1_lastGap_13 : decode cX1_lastGap 13 = .ok (.iload_n 1, 1) := by decide +kernel
theorem dX1_lastGap_14 : decode cX1_lastGap 14 = .ok (.iload_n 2, 1) := by decide +kernel
theorem dX1_lastGap_15 : decode cX1_lastGap 15 = .ok (.invokevirtual 95, 3) := by decide +kernel
theorem dX1_lastGap_18 : decode cX1_lastGap 18 = .ok (.ifCond .ne 5, 3) := by decide +kernel
theorem dX1_lastGap_21 : decode cX1_lastGap 21 = .ok (.iload_n 2, 1) := by decide +kernel
theorem dX1_lastGap_22 : decode cX1_lastGap 22 = .ok (.ireturn, 1) := by decide +kernel
theorem dX1_lastGap_23 : decode cX1_lastGap 23 = .ok (.iinc 2 (-1), 3) := by decide +kernel
theorem dX1_lastGap_26 : decode cX1_lastGap 26 = .ok (.goto (-18), 3) := by decide +kernel
theorem dX1_lastGap_29 : decode cX1_lastGap 29 = .ok (.iconst (-1), 1) := by decide +kernel
theorem dX1_lastGap_30 : decode cX1_lastGap 30 = .ok (.ireturn, 1) := by decide +kernel
theorem dX1_gaugeOf_0 : decode cX1_gaugeOf 0 = .ok (.iload_n 1, 1) := by decide +kernel
theorem dX1_gaugeOf_1 : decode cX1_gaugeOf 1 = .ok (.aload_n 0, 1) := by decide +kernel
theorem dX1_gaugeOf_2 : decode cX1_gaugeOf 2 = .ok (.getfield 34, 3) := by decide +kernel
theorem dX1_gaugeOf_5 : decode cX1_gaugeOf 5 = .ok (.isub, 1) := by decide +kernel
theorem dX1_gaugeOf_6 : decode cX1_gaugeOf 6 = .ok (.iconst 2, 1) := by decide +kernel
theorem dX1_gaugeOf_7 : decode cX1_gaugeOf 7 = .ok (.idiv, 1) := by decide +kernel
theorem dX1_gaugeOf_8 : decode cX1_gaugeOf 8 = .ok (.ireturn, 1) := by decide +kernel
theorem dX1_topOf_0 : decode cX1_topOf 0 = .ok (.iconst 0, 1) := by decide +kernel
theorem dX1_topOf_1 : decode cX1_topOf 1 = .ok (.istore_n 2, 1) := by decide +kernel
theorem dX1_topOf_2 : decode cX1_topOf 2 = .ok (.iconst 0, 1) := by decide +kernel
theorem dX1_topOf_3 : decode cX1_topOf 3 = .ok (.istore_n 3, 1) := by decide +kernel
theorem dX1_topOf_4 : decode cX1_topOf 4 = .ok (.iload_n 3, 1) := by decide +kernel
theorem dX1_topOf_5 : decode cX1_topOf 5 = .ok (.iload_n 1, 1) := by decide +kernel
theorem dX1_topOf_6 : decode cX1_topOf 6 = .ok (.if_icmp .gt 32, 3) := by decide +kernel
theorem dX1_topOf_9 : decode cX1_topOf 9 = .ok (.iload_n 3, 1) := by decide +kernel
theorem dX1_topOf_10 : decode cX1_topOf 10 = .ok (.aload_n 0, 1) := by decide +kernel
theorem dX1_topOf_11 : decode cX1_topOf 11 = .ok (.getfield 46, 3) := by decide +kernel
theorem dX1_topOf_14 : decode cX1_topOf 14 = .ok (.if_icmp .ge 24, 3) := by decide +kernel
theorem dX1_topOf_17 : decode cX1_topOf 17 = .ok (.iload_n 2, 1) := by decide +kernel
theorem dX1_topOf_18 : decode cX1_topOf 18 = .ok (.aload_n 0, 1) := by decide +kernel
theorem dX1_topOf_19 : decode cX1_topOf 19 = .ok (.aload_n 0, 1) := by decide +kernel
theorem dX1_topOf_20 : decode cX1_topOf 20 = .ok (.getfield 18, 3) := by decide +kernel
theorem dX1_topOf_23 : decode cX1_topOf 23 = .ok (.iload_n 3, 1) := by decide +kernel
theorem dX1_topOf_24 : decode cX1_topOf 24 = .ok (.invokestatic 83, 3) := by decide +kernel
theorem dX1_topOf_27 : decode cX1_topOf 27 = .ok (.invokevirtual 99, 3) := by decide +kernel
theorem dX1_topOf_30 : decode cX1_topOf 30 = .ok (.iadd, 1) := by decide +kernel
theorem dX1_topOf_31 : decode cX1_topOf 31 = .ok (.istore_n 2, 1) := by decide +kernel
theorem dX1_topOf_32 : decode cX1_topOf 32 = .ok (.iinc 3 1, 3) := by decide +kernel
theorem dX1_topOf_35 : decode cX1_topOf 35 = .ok (.goto (-31), 3) := by decide +kernel
theorem dX1_topOf_38 : decode cX1_topOf 38 = .ok (.iload_n 2, 1) := by decide +kernel
theorem dX1_topOf_39 : decode cX1_topOf 39 = .ok (.ireturn, 1) := by decide +kernel
theorem dX1_isHighEnough_0 : decode cX1_isHighEnough 0 = .ok (.aload_n 0, 1) := by decide +kernel
theorem dX1_isHighEnough_1 : decode cX1_isHighEnough 1 = .ok (.aload_n 0, 1) := by decide +kernel
theorem dX1_isHighEnough_2 : decode cX1_isHighEnough 2 = .ok (.getfield 46, 3) := by decide +kernel
theorem dX1_isHighEnough_5 : decode cX1_isHighEnough 5 = .ok (.iconst 1, 1) := by decide +kernel
theorem dX1_isHighEnough_6 : decode cX1_isHighEnough 6 = .ok (.isub, 1) := by decide +kernel
theorem dX1_isHighEnough_7 : decode cX1_isHighEnough 7 = .ok (.invokevirtual 102, 3) := by decide +kernel
theorem dX1_isHighEnough_10 : decode cX1_isHighEnough 10 = .ok (.aload_n 0, 1) := by decide +kernel
theorem dX1_isHighEnough_11 : decode cX1_isHighEnough 11 = .ok (.getfield 9, 3) := by decide +kernel
theorem dX1_isHighEnough_14 : decode cX1_isHighEnough 14 = .ok (.if_icmp .lt 7, 3) := by decide +kernel
theorem dX1_isHighEnough_17 : decode cX1_isHighEnough 17 = .ok (.iconst 1, 1) := by decide +kernel
theorem dX1_isHighEnough_18 : decode cX1_isHighEnough 18 = .ok (.goto 4, 3) := by decide +kernel
theorem dX1_isHighEnough_21 : decode cX1_isHighEnough 21 = .ok (.iconst 0, 1) := by decide +kernel
theorem dX1_isHighEnough_22 : decode cX1_isHighEnough 22 = .ok (.ireturn, 1) := by decide +kernel
theorem dX1_slatesOnRoof_0 : decode cX1_slatesOnRoof 0 = .ok (.iconst 0, 1) := by decide +kernel
theorem dX1_slatesOnRoof_1 : decode cX1_slatesOnRoof 1 = .ok (.istore_n 1, 1) := by decide +kernel
theorem dX1_slatesOnRoof_2 : decode cX1_slatesOnRoof 2 = .ok (.iconst 0, 1) := by decide +kernel
theorem dX1_slatesOnRoof_3 : decode cX1_slatesOnRoof 3 = .ok (.istore_n 2, 1) := by decide +kernel
theorem dX1_slatesOnRoof_4 : decode cX1_slatesOnRoof 4 = .ok (.iload_n 2, 1) := by decide +kernel
theorem dX1_slatesOnRoof_5 : decode cX1_slatesOnRoof 5 = .ok (.aload_n 0, 1) := by decide +kernel
theorem dX1_slatesOnRoof_6 : decode cX1_slatesOnRoof 6 = .ok (.getfield 46, 3) := by decide +kernel
theorem dX1_slatesOnRoof_9 : decode cX1_slatesOnRoof 9 = .ok (.if_icmp .ge 17, 3) := by decide +kernel
theorem dX1_slatesOnRoof_12 : decode cX1_slatesOnRoof 12 = .ok (.iload_n 1, 1) := by decide +kernel
theorem dX1_slatesOnRoof_13 : decode cX1_slatesOnRoof 13 = .ok (.aload_n 0, 1) := by decide +kernel
theorem dX1_slatesOnRoof_14 : decode cX1_slatesOnRoof 14 = .ok (.iload_n 2, 1) := by decide +kernel
theorem dX1_slatesOnRoof_15 : decode cX1_slatesOnRoof 15 = .ok (.invokevirtual 92, 3) := by decide +kernel
theorem dX1_slatesOnRoof_18 : decode cX1_slatesOnRoof 18 = .ok (.iadd, 1) := by decide +kernel
theorem dX1_slatesOnRoof_19 : decode cX1_slatesOnRoof 19 = .ok (.istore_n 1, 1) := by decide +kernel
theorem dX1_slatesOnRoof_20 : decode cX1_slatesOnRoof 20 = .ok (.iinc 2 1, 3) := by decide +kernel
theorem dX1_slatesOnRoof_23 : decode cX1_slatesOnRoof 23 = .ok (.goto (-19), 3) := by decide +kernel
theorem dX1_slatesOnRoof_26 : decode cX1_slatesOnRoof 26 = .ok (.iload_n 1, 1) := by decide +kernel
theorem dX1_slatesOnRoof_27 : decode cX1_slatesOnRoof 27 = .ok (.ireturn, 1) := by decide +kernel
theorem dX1_slatesOnRoofOf_0 : decode cX1_slatesOnRoofOf 0 = .ok (.iconst 0, 1) := by decide +kernel
theorem dX1_slatesOnRoofOf_1 : decode cX1_slatesOnRoofOf 1 = .ok (.istore_n 2, 1) := by decide +kernel
theorem dX1_slatesOnRoofOf_2 : decode cX1_slatesOnRoofOf 2 = .ok (.iconst 0, 1) := by decide +kernel
theorem dX1_slatesOnRoofOf_3 : decode cX1_slatesOnRoofOf 3 = .ok (.istore_n 3, 1) := by decide +kernel
theorem dX1_slatesOnRoofOf_4 : decode cX1_slatesOnRoofOf 4 = .ok (.iload_n 3, 1) := by decide +kernel
theorem dX1_slatesOnRoofOf_5 : decode cX1_slatesOnRoofOf 5 = .ok (.aload_n 0, 1) := by decide +kernel
theorem dX1_slatesOnRoofOf_6 : decode cX1_slatesOnRoofOf 6 = .ok (.getfield 46, 3) := by decide +kernel
theorem dX1_slatesOnRoofOf_9 : decode cX1_slatesOnRoofOf 9 = .ok (.if_icmp .ge 29, 3) := by decide +kernel
theorem dX1_slatesOnRoofOf_12 : decode cX1_slatesOnRoofOf 12 = .ok (.aload_n 0, 1) := by decide +kernel
theorem dX1_slatesOnRoofOf_13 : decode cX1_slatesOnRoofOf 13 = .ok (.getfield 18, 3) := by decide +kernel
theorem dX1_slatesOnRoofOf_16 : decode cX1_slatesOnRoofOf 16 = .ok (.iload_n 3, 1) := by decide +kernel
theorem dX1_slatesOnRoofOf_17 : decode cX1_slatesOnRoofOf 17 = .ok (.invokestatic 83, 3) := by decide +kernel
theorem dX1_slatesOnRoofOf_20 : decode cX1_slatesOnRoofOf 20 = .ok (.iload_n 1, 1) := by decide +kernel
theorem dX1_slatesOnRoofOf_21 : decode cX1_slatesOnRoofOf 21 = .ok (.if_icmp .ne 11, 3) := by decide +kernel
theorem dX1_slatesOnRoofOf_24 : decode cX1_slatesOnRoofOf 24 = .ok (.iload_n 2, 1) := by decide +kernel
theorem dX1_slatesOnRoofOf_25 : decode cX1_slatesOnRoofOf 25 = .ok (.aload_n 0, 1) := by decide +kernel
theorem dX1_slatesOnRoofOf_26 : decode cX1_slatesOnRoofOf 26 = .ok (.iload_n 3, 1) := by decide +kernel
theorem dX1_slatesOnRoofOf_27 : decode cX1_slatesOnRoofOf 27 = .ok (.invokevirtual 92, 3) := by decide +kernel
theorem dX1_slatesOnRoofOf_30 : decode cX1_slatesOnRoofOf 30 = .ok (.iadd, 1) := by decide +kernel
theorem dX1_slatesOnRoofOf_31 : decode cX1_slatesOnRoofOf 31 = .ok (.istore_n 2, 1) := by decide +kernel
theorem dX1_slatesOnRoofOf_32 : decode cX1_slatesOnRoofOf 32 = .ok (.iinc 3 1, 3) := by decide +kernel
theorem dX1_slatesOnRoofOf_35 : decode cX1_slatesOnRoofOf 35 = .ok (.goto (-31), 3) := by decide +kernel
theorem dX1_slatesOnRoofOf_38 : decode cX1_slatesOnRoofOf 38 = .ok (.iload_n 2, 1) := by decide +kernel
theorem dX1_slatesOnRoofOf_39 : decode cX1_slatesOnRoofOf 39 = .ok (.ireturn, 1) := by decide +kernel
theorem dX1_gapsOnRoof_0 : decode cX1_gapsOnRoof 0 = .ok (.iconst 0, 1) := by decide +kernel
theorem dX1_gapsOnRoof_1 : decode cX1_gapsOnRoof 1 = .ok (.istore_n 1, 1) := by decide +kernel
theorem dX1_gapsOnRoof_2 : decode cX1_gapsOnRoof 2 = .ok (.iconst 0, 1) := by decide +kernel
theorem dX1_gapsOnRoof_3 : decode cX1_gapsOnRoof 3 = .ok (.istore_n 2, 1) := by decide +kernel
theorem dX1_gapsOnRoof_4 : decode cX1_gapsOnRoof 4 = .ok (.iload_n 2, 1) := by decide +kernel
theorem dX1_gapsOnRoof_5 : decode cX1_gapsOnRoof 5 = .ok (.aload_n 0, 1) := by decide +kernel
theorem dX1_gapsOnRoof_6 : decode cX1_gapsOnRoof 6 = .ok (.getfield 46, 3) := by decide +kernel
theorem dX1_gapsOnRoof_9 : decode cX1_gapsOnRoof 9 = .ok (.if_icmp .ge 23, 3) := by decide +kernel
theorem dX1_gapsOnRoof_12 : decode cX1_gapsOnRoof 12 = .ok (.iload_n 1, 1) := by decide +kernel
theorem dX1_gapsOnRoof_13 : decode cX1_gapsOnRoof 13 = .ok (.aload_n 0, 1) := by decide +kernel
theorem dX1_gapsOnRoof_14 : decode cX1_gapsOnRoof 14 = .ok (.iload_n 2, 1) := by decide +kernel
theorem dX1_gapsOnRoof_15 : decode cX1_gapsOnRoof 15 = .ok (.invokevirtual 79, 3) := by decide +kernel
theorem dX1_gapsOnRoof_18 : decode cX1_gapsOnRoof 18 = .ok (.aload_n 0, 1) := by decide +kernel
theorem dX1_gapsOnRoof_19 : decode cX1_gapsOnRoof 19 = .ok (.iload_n 2, 1) := by decide +kernel
theorem dX1_gapsOnRoof_20 : decode cX1_gapsOnRoof 20 = .ok (.invokevirtual 92, 3) := by decide +kernel
theorem dX1_gapsOnRoof_23 : decode cX1_gapsOnRoof 23 = .ok (.isub, 1) := by decide +kernel
theorem dX1_gapsOnRoof_24 : decode cX1_gapsOnRoof 24 = .ok (.iadd, 1) := by decide +kernel
theorem dX1_gapsOnRoof_25 : decode cX1_gapsOnRoof 25 = .ok (.istore_n 1, 1) := by decide +kernel
theorem dX1_gapsOnRoof_26 : decode cX1_gapsOnRoof 26 = .ok (.iinc 2 1, 3) := by decide +kernel
theorem dX1_gapsOnRoof_29 : decode cX1_gapsOnRoof 29 = .ok (.goto (-25), 3) := by decide +kernel
theorem dX1_gapsOnRoof_32 : decode cX1_gapsOnRoof 32 = .ok (.iload_n 1, 1) := by decide +kernel
theorem dX1_gapsOnRoof_33 : decode cX1_gapsOnRoof 33 = .ok (.ireturn, 1) := by decide +kernel
theorem dX1_isDone_0 : decode cX1_isDone 0 = .ok (.aload_n 0, 1) := by decide +kernel
theorem dX1_isDone_1 : decode cX1_isDone 1 = .ok (.invokevirtual 105, 3) := by decide +kernel
theorem dX1_isDone_4 : decode cX1_isDone 4 = .ok (.ifCond .eq 14, 3) := by decide +kernel
theorem dX1_isDone_7 : decode cX1_isDone 7 = .ok (.aload_n 0, 1) := by decide +kernel
theorem dX1_isDone_8 : decode cX1_isDone 8 = .ok (.invokevirtual 109, 3) := by decide +kernel
theorem dX1_isDone_11 : decode cX1_isDone 11 = .ok (.ifCond .ne 7, 3) := by decide +kernel
theorem dX1_isDone_14 : decode cX1_isDone 14 = .ok (.iconst 1, 1) := by decide +kernel
theorem dX1_isDone_15 : decode cX1_isDone 15 = .ok (.goto 4, 3) := by decide +kernel
theorem dX1_isDone_18 : decode cX1_isDone 18 = .ok (.iconst 0, 1) := by decide +kernel
theorem dX1_isDone_19 : decode cX1_isDone 19 = .ok (.ireturn, 1) := by decide +kernel
theorem dX1_longestNext_0 : decode cX1_longestNext 0 = .ok (.aload_n 0, 1) := by decide +kernel
theorem dX1_longestNext_1 : decode cX1_longestNext 1 = .ok (.getfield 46, 3) := by decide +kernel
theorem dX1_longestNext_4 : decode cX1_longestNext 4 = .ok (.ifCond .le 19, 3) := by decide +kernel
theorem dX1_longestNext_7 : decode cX1_longestNext 7 = .ok (.aload_n 0, 1) := by decide +kernel
theorem dX1_longestNext_8 : decode cX1_longestNext 8 = .ok (.getfield 18, 3) := by decide +kernel
theorem dX1_longestNext_11 : decode cX1_longestNext 11 = .ok (.aload_n 0, 1) := by decide +kernel
theorem dX1_longestNext_12 : decode cX1_longestNext 12 = .ok (.getfield 46, 3) := by decide +kernel
theorem dX1_longestNext_15 : decode cX1_longestNext 15 = .ok (.iconst 1, 1) := by decide +kernel
theorem dX1_longestNext_16 : decode cX1_longestNext 16 = .ok (.isub, 1) := by decide +kernel
theorem dX1_longestNext_17 : decode cX1_longestNext 17 = .ok (.invokestatic 83, 3) := by decide +kernel
theorem dX1_longestNext_20 : decode cX1_longestNext 20 = .ok (.goto 5, 3) := by decide +kernel
theorem dX1_longestNext_23 : decode cX1_longestNext 23 = .ok (.bipush 24, 2) := by decide +kernel
theorem dX1_longestNext_25 : decode cX1_longestNext 25 = .ok (.ireturn, 1) := by decide +kernel
theorem dX1_canBeSlated_0 : decode cX1_canBeSlated 0 = .ok (.aload_n 0, 1) := by decide +kernel
theorem dX1_canBeSlated_1 : decode cX1_canBeSlated 1 = .ok (.getfield 59, 3) := by decide +kernel
theorem dX1_canBeSlated_4 : decode cX1_canBeSlated 4 = .ok (.ifCond .ne 14, 3) := by decide +kernel
theorem dX1_canBeSlated_7 : decode cX1_canBeSlated 7 = .ok (.aload_n 0, 1) := by decide +kernel
theorem dX1_canBeSlated_8 : decode cX1_canBeSlated 8 = .ok (.getfield 56, 3) := by decide +kernel
theorem dX1_canBeSlated_11 : decode cX1_canBeSlated 11 = .ok (.ifCond .ne 7, 3) := by decide +kernel
theorem dX1_canBeSlated_14 : decode cX1_canBeSlated 14 = .ok (.iconst 1, 1) := by decide +kernel
theorem dX1_canBeSlated_15 : decode cX1_canBeSlated 15 = .ok (.goto 4, 3) := by decide +kernel
theorem dX1_canBeSlated_18 : decode cX1_canBeSlated 18 = .ok (.iconst 0, 1) := by decide +kernel
theorem dX1_canBeSlated_19 : decode cX1_canBeSlated 19 = .ok (.ireturn, 1) := by decide +kernel
theorem dX1_canGoUp_0 : decode cX1_canGoUp 0 = .ok (.aload_n 0, 1) := by decide +kernel
theorem dX1_canGoUp_1 : decode cX1_canGoUp 1 = .ok (.getfield 46, 3) := by decide +kernel
theorem dX1_canGoUp_4 : decode cX1_canGoUp 4 = .ok (.bipush 100, 2) := by decide +kernel
theorem dX1_canGoUp_6 : decode cX1_canGoUp 6 = .ok (.if_icmp .ge 34, 3) := by decide +kernel
theorem dX1_canGoUp_9 : decode cX1_canGoUp 9 = .ok (.aload_n 0, 1) := by decide +kernel
theorem dX1_canGoUp_10 : decode cX1_canGoUp 10 = .ok (.invokevirtual 105, 3) := by decide +kernel
theorem dX1_canGoUp_13 : decode cX1_canGoUp 13 = .ok (.ifCond .ne 27, 3) := by decide +kernel
theorem dX1_canGoUp_16 : decode cX1_canGoUp 16 = .ok (.aload_n 0, 1) := by decide +kernel
theorem dX1_canGoUp_17 : decode cX1_canGoUp 17 = .ok (.getfield 46, 3) := by decide +kernel
theorem dX1_canGoUp_20 : decode cX1_canGoUp 20 = .ok (.ifCond .eq 16, 3) := by decide +kernel
theorem dX1_canGoUp_23 : decode cX1_canGoUp 23 = .ok (.aload_n 0, 1) := by decide +kernel
theorem dX1_canGoUp_24 : decode cX1_canGoUp 24 = .ok (.aload_n 0, 1) := by decide +kernel
theorem dX1_canGoUp_25 : decode cX1_canGoUp 25 = .ok (.getfield 46, 3) := by decide +kernel
theorem dX1_canGoUp_28 : decode cX1_canGoUp 28 = .ok (.iconst 1, 1) := by decide +kernel
theorem dX1_canGoUp_29 : decode cX1_canGoUp 29 = .ok (.isub, 1) := by decide +kernel
theorem dX1_canGoUp_30 : decode cX1_canGoUp 30 = .ok (.invokevirtual 113, 3) := by decide +kernel
theorem dX1_canGoUp_33 : decode cX1_canGoUp 33 = .ok (.ifCond .eq 7, 3) := by decide +kernel
theorem dX1_canGoUp_36 : decode cX1_canGoUp 36 = .ok (.iconst 1, 1) := by decide +kernel
theorem dX1_canGoUp_37 : decode cX1_canGoUp 37 = .ok (.goto 4, 3) := by decide +kernel
theorem dX1_canGoUp_40 : decode cX1_canGoUp 40 = .ok (.iconst 0, 1) := by decide +kernel
theorem dX1_canGoUp_41 : decode cX1_canGoUp 41 = .ok (.ireturn, 1) := by decide +kernel
theorem dX1_canLay_0 : decode cX1_canLay 0 = .ok (.aload_n 0, 1) := by decide +kernel
theorem dX1_canLay_1 : decode cX1_canLay 1 = .ok (.getfield 46, 3) := by decide +kernel
theorem dX1_canLay_4 : decode cX1_canLay 4 = .ok (.iconst 1, 1) := by decide +kernel
theorem dX1_canLay_5 : decode cX1_canLay 5 = .ok (.isub, 1) := by decide +kernel
theorem dX1_canLay_6 : decode cX1_canLay 6 = .ok (.istore_n 2, 1) := by decide +kernel
theorem dX1_canLay_7 : decode cX1_canLay 7 = .ok (.aload_n 0, 1) := by decide +kernel
theorem dX1_canLay_8 : decode cX1_canLay 8 = .ok (.iload_n 2, 1) := by decide +kernel
theorem dX1_canLay_9 : decode cX1_canLay 9 = .ok (.invokevirtual 75, 3) := by decide +kernel
theorem dX1_canLay_12 : decode cX1_canLay 12 = .ok (.ifCond .eq 49, 3) := by decide +kernel
theorem dX1_canLay_15 : decode cX1_canLay 15 = .ok (.aload_n 0, 1) := by decide +kernel
theorem dX1_canLay_16 : decode cX1_canLay 16 = .ok (.iload_n 2, 1) := by decide +kernel
theorem dX1_canLay_17 : decode cX1_canLay 17 = .ok (.invokevirtual 79, 3) := by decide +kernel
theorem dX1_canLay_20 : decode cX1_canLay 20 = .ok (.aload_n 0, 1) := by decide +kernel
theorem dX1_canLay_21 : decode cX1_canLay 21 = .ok (.iload_n 2, 1) := by decide +kernel
theorem dX1_canLay_22 : decode cX1_canLay 22 = .ok (.invokevirtual 92, 3) := by decide +kernel
theorem dX1_canLay_25 : decode cX1_canLay 25 = .ok (.isub, 1) := by decide +kernel
theorem dX1_canLay_26 : decode cX1_canLay 26 = .ok (.iload_n 1, 1) := by decide +kernel
theorem dX1_canLay_27 : decode cX1_canLay 27 = .ok (.if_icmp .lt 34, 3) := by decide +kernel
theorem dX1_canLay_30 : decode cX1_canLay 30 = .ok (.aload_n 0, 1) := by decide +kernel
theorem dX1_canLay_31 : decode cX1_canLay 31 = .ok (.getfield 25, 3) := by decide +kernel
theorem dX1_canLay_34 : decode cX1_canLay 34 = .ok (.aload_n 0, 1) := by decide +kernel
theorem dX1_canLay_35 : decode cX1_canLay 35 = .ok (.getfield 18, 3) := by decide +kernel
theorem dX1_canLay_38 : decode cX1_canLay 38 = .ok (.iload_n 2, 1) := by decide +kernel
theorem dX1_canLay_39 : decode cX1_canLay 39 = .ok (.invokestatic 83, 3) := by decide +kernel
theorem dX1_canLay_42 : decode cX1_canLay 42 = .ok (.invokestatic 83, 3) := by decide +kernel
theorem dX1_canLay_45 : decode cX1_canLay 45 = .ok (.iload_n 1, 1) := by decide +kernel
theorem dX1_canLay_46 : decode cX1_canLay 46 = .ok (.if_icmp .lt 15, 3) := by decide +kernel
theorem dX1_canLay_49 : decode cX1_canLay 49 = .ok (.aload_n 0, 1) := by decide +kernel
theorem dX1_canLay_50 : decode cX1_canLay 50 = .ok (.getfield 43, 3) := by decide +kernel
theorem dX1_canLay_53 : decode cX1_canLay 53 = .ok (.iload_n 1, 1) := by decide +kernel
theorem dX1_canLay_54 : decode cX1_canLay 54 = .ok (.if_icmp .lt 7, 3) := by decide +kernel
theorem dX1_canLay_57 : decode cX1_canLay 57 = .ok (.iconst 1, 1) := by decide +kernel
theorem dX1_canLay_58 : decode cX1_canLay 58 = .ok (.goto 4, 3) := by decide +kernel
theorem dX1_canLay_61 : decode cX1_canLay 61 = .ok (.iconst 0, 1) := by decide +kernel
theorem dX1_canLay_62 : decode cX1_canLay 62 = .ok (.ireturn, 1) := by decide +kernel
theorem dX1_canMend_0 : decode cX1_canMend 0 = .ok (.aload_n 0, 1) := by decide +kernel
theorem dX1_canMend_1 : decode cX1_canMend 1 = .ok (.iload_n 1, 1) := by decide +kernel
theorem dX1_canMend_2 : decode cX1_canMend 2 = .ok (.iload_n 2, 1) := by decide +kernel
theorem dX1_canMend_3 : decode cX1_canMend 3 = .ok (.invokevirtual 116, 3) := by decide +kernel
theorem dX1_canMend_6 : decode cX1_canMend 6 = .ok (.ifCond .eq 42, 3) := by decide +kernel
theorem dX1_canMend_9 : decode cX1_canMend 9 = .ok (.aload_n 0, 1) := by decide +kernel
theorem dX1_canMend_10 : decode cX1_canMend 10 = .ok (.iload_n 1, 1) := by decide +kernel
theorem dX1_canMend_11 : decode cX1_canMend 11 = .ok (.iload_n 2, 1) := by decide +kernel
theorem dX1_canMend_12 : decode cX1_canMend 12 = .ok (.invokevirtual 95, 3) := by decide +kernel
theorem dX1_canMend_15 : decode cX1_canMend 15 = .ok (.ifCond .ne 33, 3) := by decide +kernel
theorem dX1_canMend_18 : decode cX1_canMend 18 = .ok (.aload_n 0, 1) := by decide +kernel
theorem dX1_canMend_19 : decode cX1_canMend 19 = .ok (.getfield 25, 3) := by decide +kernel
theorem dX1_canMend_22 : decode cX1_canMend 22 = .ok (.aload_n 0, 1) := by decide +kernel
theorem dX1_canMend_23 : decode cX1_canMend 23 = .ok (.getfield 18, 3) := by decide +kernel
theorem dX1_canMend_26 : decode cX1_canMend 26 = .ok (.iload_n 1, 1) := by decide +kernel
theorem dX1_canMend_27 : decode cX1_canMend 27 = .ok (.invokestatic 83, 3) := by decide +kernel
theorem dX1_canMend_30 : decode cX1_canMend 30 = .ok (.invokestatic 83, 3) := by decide +kernel
theorem dX1_canMend_33 : decode cX1_canMend 33 = .ok (.ifCond .le 15, 3) := by decide +kernel
theorem dX1_canMend_36 : decode cX1_canMend 36 = .ok (.aload_n 0, 1) := by decide +kernel
theorem dX1_canMend_37 : decode cX1_canMend 37 = .ok (.getfield 43, 3) := by decide +kernel
theorem dX1_canMend_40 : decode cX1_canMend 40 = .ok (.iconst 3, 1) := by decide +kernel
theorem dX1_canMend_41 : decode cX1_canMend 41 = .ok (.if_icmp .lt 7, 3) := by decide +kernel
theorem dX1_canMend_44 : decode cX1_canMend 44 = .ok (.iconst 1, 1) := by decide +kernel
theorem dX1_canMend_45 : decode cX1_canMend 45 = .ok (.goto 4, 3) := by decide +kernel
theorem dX1_canMend_48 : decode cX1_canMend 48 = .ok (.iconst 0, 1) := by decide +kernel
theorem dX1_canMend_49 : decode cX1_canMend 49 = .ok (.ireturn, 1) := by decide +kernel
theorem dX1_addCourse_0 : decode cX1_addCourse 0 = .ok (.aload_n 0, 1) := by decide +kernel
theorem dX1_addCourse_1 : decode cX1_addCourse 1 = .ok (.getfield 46, 3) := by decide +kernel
theorem dX1_addCourse_4 : decode cX1_addCourse 4 = .ok (.ifCond .lt 45, 3) := by decide +kernel
theorem dX1_addCourse_7 : decode cX1_addCourse 7 = .ok (.aload_n 0, 1) := by decide +kernel
theorem dX1_addCourse_8 : decode cX1_addCourse 8 = .ok (.getfield 46, 3) := by decide +kernel
theorem dX1_addCourse_11 : decode cX1_addCourse 11 = .ok (.aload_n 0, 1) := by decide +kernel
theorem dX1_addCourse_12 : decode cX1_addCourse 12 = .ok (.getfield 18, 3) := by decide +kernel
theorem dX1_addCourse_15 : decode cX1_addCourse 15 = .ok (.arraylength, 1) := by decide +kernel
theorem dX1_addCourse_16 : decode cX1_addCourse 16 = .ok (.if_icmp .ge 33, 3) := by decide +kernel
theorem dX1_addCourse_19 : decode cX1_addCourse 19 = .ok (.aload_n 0, 1) := by decide +kernel
theorem dX1_addCourse_20 : decode cX1_addCourse 20 = .ok (.getfield 18, 3) := by decide +kernel
theorem dX1_addCourse_23 : decode cX1_addCourse 23 = .ok (.aload_n 0, 1) := by decide +kernel
theorem dX1_addCourse_24 : decode cX1_addCourse 24 = .ok (.getfield 46, 3) := by decide +kernel
theorem dX1_addCourse_27 : decode cX1_addCourse 27 = .ok (.iload_n 1, 1) := by decide +kernel
theorem dX1_addCourse_28 : decode cX1_addCourse 28 = .ok (.iastore, 1) := by decide +kernel
theorem dX1_addCourse_29 : decode cX1_addCourse 29 = .ok (.aload_n 0, 1) := by decide +kernel
theorem dX1_addCourse_30 : decode cX1_addCourse 30 = .ok (.getfield 22, 3) := by decide +kernel
theorem dX1_addCourse_33 : decode cX1_addCourse 33 = .ok (.aload_n 0, 1) := by decide +kernel
theorem dX1_addCourse_34 : decode cX1_addCourse 34 = .ok (.getfield 46, 3) := by decide +kernel
theorem dX1_addCourse_37 : decode cX1_addCourse 37 = .ok (.iconst 0, 1) := by decide +kernel
theorem dX1_addCourse_38 : decode cX1_addCourse 38 = .ok (.iastore, 1) := by decide +kernel
theorem dX1_addCourse_39 : decode cX1_addCourse 39 = .ok (.aload_n 0, 1) := by decide +kernel
theorem dX1_addCourse_40 : decode cX1_addCourse 40 = .ok (.dup, 1) := by decide +kernel
theorem dX1_addCourse_41 : decode cX1_addCourse 41 = .ok (.getfield 46, 3) := by decide +kernel
theorem dX1_addCourse_44 : decode cX1_addCourse 44 = .ok (.iconst 1, 1) := by decide +kernel
theorem dX1_addCourse_45 : decode cX1_addCourse 45 = .ok (.iadd, 1) := by decide +kernel
theorem dX1_addCourse_46 : decode cX1_addCourse 46 = .ok (.putfield 46, 3) := by decide +kernel
theorem dX1_addCourse_49 : decode cX1_addCourse 49 = .ok (.return_, 1) := by decide +kernel
theorem dX1_putSlate_0 : decode cX1_putSlate 0 = .ok (.aload_n 0, 1) := by decide +kernel
theorem dX1_putSlate_1 : decode cX1_putSlate 1 = .ok (.iload_n 1, 1) := by decide +kernel
theorem dX1_putSlate_2 : decode cX1_putSlate 2 = .ok (.iload_n 2, 1) := by decide +kernel
theorem dX1_putSlate_3 : decode cX1_putSlate 3 = .ok (.invokevirtual 116, 3) := by decide +kernel
theorem dX1_putSlate_6 : decode cX1_putSlate 6 = .ok (.ifCond .eq 49, 3) := by decide +kernel
theorem dX1_putSlate_9 : decode cX1_putSlate 9 = .ok (.aload_n 0, 1) := by decide +kernel
theorem dX1_putSlate_10 : decode cX1_putSlate 10 = .ok (.iload_n 1, 1) := by decide +kernel
theorem dX1_putSlate_11 : decode cX1_putSlate 11 = .ok (.iload_n 2, 1) := by decide +kernel
theorem dX1_putSlate_12 : decode cX1_putSlate 12 = .ok (.invokevirtual 95, 3) := by decide +kernel
theorem dX1_putSlate_15 : decode cX1_putSlate 15 = .ok (.ifCond .ne 40, 3) := by decide +kernel
theorem dX1_putSlate_18 : decode cX1_putSlate 18 = .ok (.aload_n 0, 1) := by decide +kernel
theorem dX1_putSlate_19 : decode cX1_putSlate 19 = .ok (.getfield 22, 3) := by decide +kernel
theorem dX1_putSlate_22 : decode cX1_putSlate 22 = .ok (.iload_n 1, 1) := by decide +kernel
theorem dX1_putSlate_23 : decode cX1_putSlate 23 = .ok (.iconst 1, 1) := by decide +kernel
theorem dX1_putSlate_24 : decode cX1_putSlate 24 = .ok (.iload_n 2, 1) := by decide +kernel
theorem dX1_putSlate_25 : decode cX1_putSlate 25 = .ok (.ishl, 1) := by decide +kernel
theorem dX1_putSlate_26 : decode cX1_putSlate 26 = .ok (.invokestatic 119, 3) := by decide +kernel
theorem dX1_putSlate_29 : decode cX1_putSlate 29 = .ok (.aload_n 0, 1) := by decide +kernel
theorem dX1_putSlate_30 : decode cX1_putSlate 30 = .ok (.getfield 25, 3) := by decide +kernel
theorem dX1_putSlate_33 : decode cX1_putSlate 33 = .ok (.aload_n 0, 1) := by decide +kernel
theorem dX1_putSlate_34 : decode cX1_putSlate 34 = .ok (.getfield 18, 3) := by decide +kernel
theorem dX1_putSlate_37 : decode cX1_putSlate 37 = .ok (.iload_n 1, 1) := by decide +kernel
theorem dX1_putSlate_38 : decode cX1_putSlate 38 = .ok (.invokestatic 83, 3) := by decide +kernel
theorem dX1_putSlate_41 : decode cX1_putSlate 41 = .ok (.iconst (-1), 1) := by decide +kernel
theorem dX1_putSlate_42 : decode cX1_putSlate 42 = .ok (.invokestatic 119, 3) := by decide +kernel
theorem dX1_putSlate_45 : decode cX1_putSlate 45 = .ok (.aload_n 0, 1) := by decide +kernel
theorem dX1_putSlate_46 : decode cX1_putSlate 46 = .ok (.dup, 1) := by decide +kernel
theorem dX1_putSlate_47 : decode cX1_putSlate 47 = .ok (.getfield 43, 3) := by decide +kernel
theorem dX1_putSlate_50 : decode cX1_putSlate 50 = .ok (.iload_n 3, 1) := by decide +kernel
theorem dX1_putSlate_51 : decode cX1_putSlate 51 = .ok (.isub, 1) := by decide +kernel
theorem dX1_putSlate_52 : decode cX1_putSlate 52 = .ok (.putfield 43, 3) := by decide +kernel
theorem dX1_putSlate_55 : decode cX1_putSlate 55 = .ok (.return_, 1) := by decide +kernel
theorem dX1_passDay_0 : decode cX1_passDay 0 = .ok (.aload_n 0, 1) := by decide +kernel
theorem dX1_passDay_1 : decode cX1_passDay 1 = .ok (.dup, 1) := by decide +kernel
theorem dX1_passDay_2 : decode cX1_passDay 2 = .ok (.getfield 53, 3) := by decide +kernel
theorem dX1_passDay_5 : decode cX1_passDay 5 = .ok (.iconst 1, 1) := by decide +kernel
theorem dX1_passDay_6 : decode cX1_passDay 6 = .ok (.iadd, 1) := by decide +kernel
theorem dX1_passDay_7 : decode cX1_passDay 7 = .ok (.putfield 53, 3) := by decide +kernel
theorem dX1_passDay_10 : decode cX1_passDay 10 = .ok (.iload_n 1, 1) := by decide +kernel
theorem dX1_passDay_11 : decode cX1_passDay 11 = .ok (.ifCond .ne 20, 3) := by decide +kernel
theorem dX1_passDay_14 : decode cX1_passDay 14 = .ok (.aload_n 0, 1) := by decide +kernel
theorem dX1_passDay_15 : decode cX1_passDay 15 = .ok (.iconst 0, 1) := by decide +kernel
theorem dX1_passDay_16 : decode cX1_passDay 16 = .ok (.aload_n 0, 1) := by decide +kernel
theorem dX1_passDay_17 : decode cX1_passDay 17 = .ok (.getfield 56, 3) := by decide +kernel
theorem dX1_passDay_20 : decode cX1_passDay 20 = .ok (.iconst 1, 1) := by decide +kernel
theorem dX1_passDay_21 : decode cX1_passDay 21 = .ok (.isub, 1) := by decide +kernel
theorem dX1_passDay_22 : decode cX1_passDay 22 = .ok (.invokestatic 123, 3) := by decide +kernel
theorem dX1_passDay_25 : decode cX1_passDay 25 = .ok (.putfield 56, 3) := by decide +kernel
theorem dX1_passDay_28 : decode cX1_passDay 28 = .ok (.goto 25, 3) := by decide +kernel
theorem dX1_passDay_31 : decode cX1_passDay 31 = .ok (.aload_n 0, 1) := by decide +kernel
theorem dX1_passDay_32 : decode cX1_passDay 32 = .ok (.getfield 59, 3) := by decide +kernel
theorem dX1_passDay_35 : decode cX1_passDay 35 = .ok (.ifCond .ne 18, 3) := by decide +kernel
theorem dX1_passDay_38 : decode cX1_passDay 38 = .ok (.aload_n 0, 1) := by decide +kernel
theorem dX1_passDay_39 : decode cX1_passDay 39 = .ok (.invokevirtual 129, 3) := by decide +kernel
theorem dX1_passDay_42 : decode cX1_passDay 42 = .ok (.ifCond .ne 11, 3) := by decide +kernel
theorem dX1_passDay_45 : decode cX1_passDay 45 = .ok (.aload_n 0, 1) := by decide +kernel
theorem dX1_passDay_46 : decode cX1_passDay 46 = .ok (.aload_n 0, 1) := by decide +kernel
theorem dX1_passDay_47 : decode cX1_passDay 47 = .ok (.getfield 40, 3) := by decide +kernel
theorem dX1_passDay_50 : decode cX1_passDay 50 = .ok (.putfield 56, 3) := by decide +kernel
theorem dX1_passDay_53 : decode cX1_passDay 53 = .ok (.iconst 0, 1) := by decide +kernel
theorem dX1_passDay_54 : decode cX1_passDay 54 = .ok (.istore_n 2, 1) := by decide +kernel
theorem dX1_passDay_55 : decode cX1_passDay 55 = .ok (.iload_n 1, 1) := by decide +kernel
theorem dX1_passDay_56 : decode cX1_passDay 56 = .ok (.iconst 2, 1) := by decide +kernel
theorem dX1_passDay_57 : decode cX1_passDay 57 = .ok (.if_icmp .ne 46, 3) := by decide +kernel
theorem dX1_passDay_60 : decode cX1_passDay 60 = .ok (.aload_n 0, 1) := by decide +kernel
theorem dX1_passDay_61 : decode cX1_passDay 61 = .ok (.getfield 59, 3) := by decide +kernel
theorem dX1_passDay_64 : decode cX1_passDay 64 = .ok (.ifCond .ne 39, 3) := by decide +kernel
theorem dX1_passDay_67 : decode cX1_passDay 67 = .ok (.aload_n 0, 1) := by decide +kernel
theorem dX1_passDay_68 : decode cX1_passDay 68 = .ok (.aload_n 0, 1) := by decide +kernel
theorem dX1_passDay_69 : decode cX1_passDay 69 = .ok (.getfield 46, 3) := by decide +kernel
theorem dX1_passDay_72 : decode cX1_passDay 72 = .ok (.iconst 1, 1) := by decide +kernel
theorem dX1_passDay_73 : decode cX1_passDay 73 = .ok (.isub, 1) := by decide +kernel
theorem dX1_passDay_74 : decode cX1_passDay 74 = .ok (.aload_n 0, 1) := by decide +kernel
theorem dX1_passDay_75 : decode cX1_passDay 75 = .ok (.getfield 53, 3) := by decide +kernel
theorem dX1_passDay_78 : decode cX1_passDay 78 = .ok (.iconst 5, 1) := by decide +kernel
theorem dX1_passDay_79 : decode cX1_passDay 79 = .ok (.irem, 1) := by decide +kernel
theorem dX1_passDay_80 : decode cX1_passDay 80 = .ok (.invokevirtual 132, 3) := by decide +kernel
theorem dX1_passDay_83 : decode cX1_passDay 83 = .ok (.aload_n 0, 1) := by decide +kernel
theorem dX1_passDay_84 : decode cX1_passDay 84 = .ok (.aload_n 0, 1) := by decide +kernel
theorem dX1_passDay_85 : decode cX1_passDay 85 = .ok (.getfield 46, 3) := by decide +kernel
theorem dX1_passDay_88 : decode cX1_passDay 88 = .ok (.iconst 2, 1) := by decide +kernel
theorem dX1_passDay_89 : decode cX1_passDay 89 = .ok (.isub, 1) := by decide +kernel
theorem dX1_passDay_90 : decode cX1_passDay 90 = .ok (.aload_n 0, 1) := by decide +kernel
theorem dX1_passDay_91 : decode cX1_passDay 91 = .ok (.getfield 53, 3) := by decide +kernel
theorem dX1_passDay_94 : decode cX1_passDay 94 = .ok (.iconst 2, 1) := by decide +kernel
theorem dX1_passDay_95 : decode cX1_passDay 95 = .ok (.iadd, 1) := by decide +kernel
theorem dX1_passDay_96 : decode cX1_passDay 96 = .ok (.iconst 5, 1) := by decide +kernel
theorem dX1_passDay_97 : decode cX1_passDay 97 = .ok (.irem, 1) := by decide +kernel
theorem dX1_passDay_98 : decode cX1_passDay 98 = .ok (.invokevirtual 132, 3) := by decide +kernel
theorem dX1_passDay_101 : decode cX1_passDay 101 = .ok (.iadd, 1) := by decide +kernel
theorem dX1_passDay_102 : decode cX1_passDay 102 = .ok (.istore_n 2, 1) := by decide +kernel
theorem dX1_passDay_103 : decode cX1_passDay 103 = .ok (.aload_n 0, 1) := by decide +kernel
theorem dX1_passDay_104 : decode cX1_passDay 104 = .ok (.aload_n 0, 1) := by decide +kernel
theorem dX1_passDay_105 : decode cX1_passDay 105 = .ok (.getfield 37, 3) := by decide +kernel
theorem dX1_passDay_108 : decode cX1_passDay 108 = .ok (.putfield 43, 3) := by decide +kernel
theorem dX1_passDay_111 : decode cX1_passDay 111 = .ok (.iload_n 2, 1) := by decide +kernel
theorem dX1_passDay_112 : decode cX1_passDay 112 = .ok (.ireturn, 1) := by decide +kernel
theorem dX1_dropSlates_0 : decode cX1_dropSlates 0 = .ok (.aload_n 0, 1) := by decide +kernel
theorem dX1_dropSlates_1 : decode cX1_dropSlates 1 = .ok (.iload_n 1, 1) := by decide +kernel
theorem dX1_dropSlates_2 : decode cX1_dropSlates 2 = .ok (.invokevirtual 75, 3) := by decide +kernel
theorem dX1_dropSlates_5 : decode cX1_dropSlates 5 = .ok (.ifCond .ne 5, 3) := by decide +kernel
theorem dX1_dropSlates_8 : decode cX1_dropSlates 8 = .ok (.iconst 0, 1) := by decide +kernel
theorem dX1_dropSlates_9 : decode cX1_dropSlates 9 = .ok (.ireturn, 1) := by decide +kernel
theorem dX1_dropSlates_10 : decode cX1_dropSlates 10 = .ok (.iconst 0, 1) := by decide +kernel
theorem dX1_dropSlates_11 : decode cX1_dropSlates 11 = .ok (.istore_n 3, 1) := by decide +kernel
theorem dX1_dropSlates_12 : decode cX1_dropSlates 12 = .ok (.aload_n 0, 1) := by decide +kernel
theorem dX1_dropSlates_13 : decode cX1_dropSlates 13 = .ok (.iload_n 1, 1) := by decide +kernel
theorem dX1_dropSlates_14 : decode cX1_dropSlates 14 = .ok (.invokevirtual 79, 3) := by decide +kernel
theorem dX1_dropSlates_17 : decode cX1_dropSlates 17 = .ok (.istore 4, 2) := by decide +kernel
theorem dX1_dropSlates_19 : decode cX1_dropSlates 19 = .ok (.iload_n 2, 1) := by decide +kernel
theorem dX1_dropSlates_20 : decode cX1_dropSlates 20 = .ok (.istore 5, 2) := by decide +kernel
theorem dX1_dropSlates_22 : decode cX1_dropSlates 22 = .ok (.iload 5, 2) := by decide +kernel
theorem dX1_dropSlates_24 : decode cX1_dropSlates 24 = .ok (.iload 4, 2) := by decide +kernel
theorem dX1_dropSlates_26 : decode cX1_dropSlates 26 = .ok (.if_icmp .ge 35, 3) := by decide +kernel
theorem dX1_dropSlates_29 : decode cX1_dropSlates 29 = .ok (.aload_n 0, 1) := by decide +kernel
theorem dX1_dropSlates_30 : decode cX1_dropSlates 30 = .ok (.iload_n 1, 1) := by decide +kernel
theorem dX1_dropSlates_31 : decode cX1_dropSlates 31 = .ok (.iload 5, 2) := by decide +kernel
theorem dX1_dropSlates_33 : decode cX1_dropSlates 33 = .ok (.invokevirtual 95, 3) := by decide +kernel
theorem dX1_dropSlates_36 : decode cX1_dropSlates 36 = .ok (.ifCond .eq 19, 3) := by decide +kernel
theorem dX1_dropSlates_39 : decode cX1_dropSlates 39 = .ok (.aload_n 0, 1) := by decide +kernel
theorem dX1_dropSlates_40 : decode cX1_dropSlates 40 = .ok (.getfield 22, 3) := by decide +kernel
theorem dX1_dropSlates_43 : decode cX1_dropSlates 43 = .ok (.iload_n 1, 1) := by decide +kernel
theorem dX1_dropSlates_44 : decode cX1_dropSlates 44 = .ok (.iconst 1, 1) := by decide +kernel
theorem dX1_dropSlates_45 : decode cX1_dropSlates 45 = .ok (.iload 5, 2) := by decide +kernel
theorem dX1_dropSlates_47 : decode cX1_dropSlates 47 = .ok (.ishl, 1) := by decide +kernel
theorem dX1_dropSlates_48 : decode cX1_dropSlates 48 = .ok (.ineg, 1) := by decide +kernel
theorem dX1_dropSlates_49 : decode cX1_dropSlates 49 = .ok (.invokestatic 119, 3) := by decide +kernel
theorem dX1_dropSlates_52 : decode cX1_dropSlates 52 = .ok (.iinc 3 1, 3) := by decide +kernel
theorem dX1_dropSlates_55 : decode cX1_dropSlates 55 = .ok (.iinc 5 5, 3) := by decide +kernel
theorem dX1_dropSlates_58 : decode cX1_dropSlates 58 = .ok (.goto (-36), 3) := by decide +kernel
theorem dX1_dropSlates_61 : decode cX1_dropSlates 61 = .ok (.aload_n 0, 1) := by decide +kernel
theorem dX1_dropSlates_62 : decode cX1_dropSlates 62 = .ok (.getfield 28, 3) := by decide +kernel
theorem dX1_dropSlates_65 : decode cX1_dropSlates 65 = .ok (.aload_n 0, 1) := by decide +kernel
theorem dX1_dropSlates_66 : decode cX1_dropSlates 66 = .ok (.getfield 18, 3) := by decide +kernel
theorem dX1_dropSlates_69 : decode cX1_dropSlates 69 = .ok (.iload_n 1, 1) := by decide +kernel
theorem dX1_dropSlates_70 : decode cX1_dropSlates 70 = .ok (.invokestatic 83, 3) := by decide +kernel
theorem dX1_dropSlates_73 : decode cX1_dropSlates 73 = .ok (.iload_n 3, 1) := by decide +kernel
theorem dX1_dropSlates_74 : decode cX1_dropSlates 74 = .ok (.invokestatic 119, 3) := by decide +kernel
theorem dX1_dropSlates_77 : decode cX1_dropSlates 77 = .ok (.iload_n 3, 1) := by decide +kernel
theorem dX1_dropSlates_78 : decode cX1_dropSlates 78 = .ok (.ireturn, 1) := by decide +kernel
theorem dX1_slateForTheDay_0 : decode cX1_slateForTheDay 0 = .ok (.iconst 0, 1) := by decide +kernel
theorem dX1_slateForTheDay_1 : decode cX1_slateForTheDay 1 = .ok (.istore_n 1, 1) := by decide +kernel
theorem dX1_slateForTheDay_2 : decode cX1_slateForTheDay 2 = .ok (.iconst 0, 1) := by decide +kernel
theorem dX1_slateForTheDay_3 : decode cX1_slateForTheDay 3 = .ok (.istore_n 2, 1) := by decide +kernel
theorem dX1_slateForTheDay_4 : decode cX1_slateForTheDay 4 = .ok (.iload_n 2, 1) := by decide +kernel
theorem dX1_slateForTheDay_5 : decode cX1_slateForTheDay 5 = .ok (.ldc 135, 2) := by decide +kernel
theorem dX1_slateForTheDay_7 : decode cX1_slateForTheDay 7 = .ok (.if_icmp .ge 59, 3) := by decide +kernel
theorem dX1_slateForTheDay_10 : decode cX1_slateForTheDay 10 = .ok (.aload_n 0, 1) := by decide +kernel
theorem dX1_slateForTheDay_11 : decode cX1_slateForTheDay 11 = .ok (.invokevirtual 136, 3) := by decide +kernel
theorem dX1_slateForTheDay_14 : decode cX1_slateForTheDay 14 = .ok (.ifCond .eq 52, 3) := by decide +kernel
theorem dX1_slateForTheDay_17 : decode cX1_slateForTheDay 17 = .ok (.aload_n 0, 1) := by decide +kernel
theorem dX1_slateForTheDay_18 : decode cX1_slateForTheDay 18 = .ok (.invokevirtual 139, 3) := by decide +kernel
theorem dX1_slateForTheDay_21 : decode cX1_slateForTheDay 21 = .ok (.ifCond .ne 10, 3) := by decide +kernel
theorem dX1_slateForTheDay_24 : decode cX1_slateForTheDay 24 = .ok (.aload_n 0, 1) := by decide +kernel
theorem dX1_slateForTheDay_25 : decode cX1_slateForTheDay 25 = .ok (.invokevirtual 142, 3) := by decide +kernel
theorem dX1_slateForTheDay_28 : decode cX1_slateForTheDay 28 = .ok (.ifCond .eq 9, 3) := by decide +kernel
theorem dX1_slateForTheDay_31 : decode cX1_slateForTheDay 31 = .ok (.iinc 1 1, 3) := by decide +kernel
theorem dX1_slateForTheDay_34 : decode cX1_slateForTheDay 34 = .ok (.goto 26, 3) := by decide +kernel
theorem dX1_slateForTheDay_37 : decode cX1_slateForTheDay 37 = .ok (.aload_n 0, 1) := by decide +kernel
theorem dX1_slateForTheDay_38 : decode cX1_slateForTheDay 38 = .ok (.invokevirtual 145, 3) := by decide +kernel
theorem dX1_slateForTheDay_41 : decode cX1_slateForTheDay 41 = .ok (.ifCond .eq 25, 3) := by decide +kernel
theorem dX1_slateForTheDay_44 : decode cX1_slateForTheDay 44 = .ok (.aload_n 0, 1) := by decide +kernel
theorem dX1_slateForTheDay_45 : decode cX1_slateForTheDay 45 = .ok (.invokevirtual 148, 3) := by decide +kernel
theorem dX1_slateForTheDay_48 : decode cX1_slateForTheDay 48 = .ok (.iconst (-1), 1) := by decide +kernel
theorem dX1_slateForTheDay_49 : decode cX1_slateForTheDay 49 = .ok (.if_icmp .eq 17, 3) := by decide +kernel
theorem dX1_slateForTheDay_52 : decode cX1_slateForTheDay 52 = .ok (.aload_n 0, 1) := by decide +kernel
theorem dX1_slateForTheDay_53 : decode cX1_slateForTheDay 53 = .ok (.aload_n 0, 1) := by decide +kernel
theorem dX1_slateForTheDay_54 : decode cX1_slateForTheDay 54 = .ok (.invokevirtual 148, 3) := by decide +kernel
theorem dX1_slateForTheDay_57 : decode cX1_slateForTheDay 57 = .ok (.invokevirtual 151, 3) := by decide +kernel
theorem dX1_slateForTheDay_60 : decode cX1_slateForTheDay 60 = .ok (.iinc 2 1, 3) := by decide +kernel
theorem dX1_slateForTheDay_63 : decode cX1_slateForTheDay 63 = .ok (.goto (-59), 3) := by decide +kernel
theorem dX1_slateForTheDay_66 : decode cX1_slateForTheDay 66 = .ok (.iload_n 1, 1) := by decide +kernel
theorem dX1_slateForTheDay_67 : decode cX1_slateForTheDay 67 = .ok (.ireturn, 1) := by decide +kernel
theorem dX1_mendFirstGap_0 : decode cX1_mendFirstGap 0 = .ok (.iconst 0, 1) := by decide +kernel
theorem dX1_mendFirstGap_1 : decode cX1_mendFirstGap 1 = .ok (.istore_n 1, 1) := by decide +kernel
theorem dX1_mendFirstGap_2 : decode cX1_mendFirstGap 2 = .ok (.iload_n 1, 1) := by decide +kernel
theorem dX1_mendFirstGap_3 : decode cX1_mendFirstGap 3 = .ok (.aload_n 0, 1) := by decide +kernel
theorem dX1_mendFirstGap_4 : decode cX1_mendFirstGap 4 = .ok (.getfield 46, 3) := by decide +kernel
theorem dX1_mendFirstGap_7 : decode cX1_mendFirstGap 7 = .ok (.iconst 1, 1) := by decide +kernel
theorem dX1_mendFirstGap_8 : decode cX1_mendFirstGap 8 = .ok (.isub, 1) := by decide +kernel
theorem dX1_mendFirstGap_9 : decode cX1_mendFirstGap 9 = .ok (.if_icmp .ge 43, 3) := by decide +kernel
theorem dX1_mendFirstGap_12 : decode cX1_mendFirstGap 12 = .ok (.aload_n 0, 1) := by decide +kernel
theorem dX1_mendFirstGap_13 : decode cX1_mendFirstGap 13 = .ok (.iload_n 1, 1) := by decide +kernel
theorem dX1_mendFirstGap_14 : decode cX1_mendFirstGap 14 = .ok (.invokevirtual 113, 3) := by decide +kernel
theorem dX1_mendFirstGap_17 : decode cX1_mendFirstGap 17 = .ok (.ifCond .ne 29, 3) := by decide +kernel
theorem dX1_mendFirstGap_20 : decode cX1_mendFirstGap 20 = .ok (.aload_n 0, 1) := by decide +kernel
theorem dX1_mendFirstGap_21 : decode cX1_mendFirstGap 21 = .ok (.iload_n 1, 1) := by decide +kernel
theorem dX1_mendFirstGap_22 : decode cX1_mendFirstGap 22 = .ok (.invokevirtual 155, 3) := by decide +kernel
theorem dX1_mendFirstGap_25 : decode cX1_mendFirstGap 25 = .ok (.istore_n 2, 1) := by decide +kernel
theorem dX1_mendFirstGap_26 : decode cX1_mendFirstGap 26 = .ok (.aload_n 0, 1) := by decide +kernel
theorem dX1_mendFirstGap_27 : decode cX1_mendFirstGap 27 = .ok (.iload_n 1, 1) := by decide +kernel
theorem dX1_mendFirstGap_28 : decode cX1_mendFirstGap 28 = .ok (.iload_n 2, 1) := by decide +kernel
theorem dX1_mendFirstGap_29 : decode cX1_mendFirstGap 29 = .ok (.invokevirtual 158, 3) := by decide +kernel
theorem dX1_mendFirstGap_32 : decode cX1_mendFirstGap 32 = .ok (.istore_n 3, 1) := by decide +kernel
theorem dX1_mendFirstGap_33 : decode cX1_mendFirstGap 33 = .ok (.iload_n 3, 1) := by decide +kernel
theorem dX1_mendFirstGap_34 : decode cX1_mendFirstGap 34 = .ok (.ifCond .eq 10, 3) := by decide +kernel
theorem dX1_mendFirstGap_37 : decode cX1_mendFirstGap 37 = .ok (.aload_n 0, 1) := by decide +kernel
theorem dX1_mendFirstGap_38 : decode cX1_mendFirstGap 38 = .ok (.iload_n 1, 1) := by decide +kernel
theorem dX1_mendFirstGap_39 : decode cX1_mendFirstGap 39 = .ok (.iload_n 2, 1) := by decide +kernel
theorem dX1_mendFirstGap_40 : decode cX1_mendFirstGap 40 = .ok (.iconst 3, 1) := by decide +kernel
theorem dX1_mendFirstGap_41 : decode cX1_mendFirstGap 41 = .ok (.invokevirtual 161, 3) := by decide +kernel
theorem dX1_mendFirstGap_44 : decode cX1_mendFirstGap 44 = .ok (.iload_n 3, 1) := by decide +kernel
theorem dX1_mendFirstGap_45 : decode cX1_mendFirstGap 45 = .ok (.ireturn, 1) := by decide +kernel
theorem dX1_mendFirstGap_46 : decode cX1_mendFirstGap 46 = .ok (.iinc 1 1, 3) := by decide +kernel
theorem dX1_mendFirstGap_49 : decode cX1_mendFirstGap 49 = .ok (.goto (-47), 3) := by decide +kernel
theorem dX1_mendFirstGap_52 : decode cX1_mendFirstGap 52 = .ok (.iconst 0, 1) := by decide +kernel
theorem dX1_mendFirstGap_53 : decode cX1_mendFirstGap 53 = .ok (.ireturn, 1) := by decide +kernel
theorem dX1_layNext_0 : decode cX1_layNext 0 = .ok (.aload_n 0, 1) := by decide +kernel
theorem dX1_layNext_1 : decode cX1_layNext 1 = .ok (.iconst 1, 1) := by decide +kernel
theorem dX1_layNext_2 : decode cX1_layNext 2 = .ok (.invokevirtual 165, 3) := by decide +kernel
theorem dX1_layNext_5 : decode cX1_layNext 5 = .ok (.istore_n 1, 1) := by decide +kernel
theorem dX1_layNext_6 : decode cX1_layNext 6 = .ok (.iload_n 1, 1) := by decide +kernel
theorem dX1_layNext_7 : decode cX1_layNext 7 = .ok (.ifCond .eq 24, 3) := by decide +kernel
theorem dX1_layNext_10 : decode cX1_layNext 10 = .ok (.aload_n 0, 1) := by decide +kernel
theorem dX1_layNext_11 : decode cX1_layNext 11 = .ok (.aload_n 0, 1) := by decide +kernel
theorem dX1_layNext_12 : decode cX1_layNext 12 = .ok (.getfield 46, 3) := by decide +kernel
theorem dX1_layNext_15 : decode cX1_layNext 15 = .ok (.iconst 1, 1) := by decide +kernel
theorem dX1_layNext_16 : decode cX1_layNext 16 = .ok (.isub, 1) := by decide +kernel
theorem dX1_layNext_17 : decode cX1_layNext 17 = .ok (.aload_n 0, 1) := by decide +kernel
theorem dX1_layNext_18 : decode cX1_layNext 18 = .ok (.aload_n 0, 1) := by decide +kernel
theorem dX1_layNext_19 : decode cX1_layNext 19 = .ok (.getfield 46, 3) := by decide +kernel
theorem dX1_layNext_22 : decode cX1_layNext 22 = .ok (.iconst 1, 1) := by decide +kernel
theorem dX1_layNext_23 : decode cX1_layNext 23 = .ok (.isub, 1) := by decide +kernel
theorem dX1_layNext_24 : decode cX1_layNext 24 = .ok (.invokevirtual 155, 3) := by decide +kernel
theorem dX1_layNext_27 : decode cX1_layNext 27 = .ok (.iconst 1, 1) := by decide +kernel
theorem dX1_layNext_28 : decode cX1_layNext 28 = .ok (.invokevirtual 161, 3) := by decide +kernel
theorem dX1_layNext_31 : decode cX1_layNext 31 = .ok (.iload_n 1, 1) := by decide +kernel
theorem dX1_layNext_32 : decode cX1_layNext 32 = .ok (.ireturn, 1) := by decide +kernel
theorem dX1_nextLength_0 : decode cX1_nextLength 0 = .ok (.aload_n 0, 1) := by decide +kernel
theorem dX1_nextLength_1 : decode cX1_nextLength 1 = .ok (.aload_n 0, 1) := by decide +kernel
theorem dX1_nextLength_2 : decode cX1_nextLength 2 = .ok (.getfield 46, 3) := by decide +kernel
theorem dX1_nextLength_5 : decode cX1_nextLength 5 = .ok (.invokevirtual 79, 3) := by decide +kernel
theorem dX1_nextLength_8 : decode cX1_nextLength 8 = .ok (.istore_n 1, 1) := by decide +kernel
theorem dX1_nextLength_9 : decode cX1_nextLength 9 = .ok (.aload_n 0, 1) := by decide +kernel
theorem dX1_nextLength_10 : decode cX1_nextLength 10 = .ok (.invokevirtual 168, 3) := by decide +kernel
theorem dX1_nextLength_13 : decode cX1_nextLength 13 = .ok (.istore_n 2, 1) := by decide +kernel
theorem dX1_nextLength_14 : decode cX1_nextLength 14 = .ok (.iload_n 2, 1) := by decide +kernel
theorem dX1_nextLength_15 : decode cX1_nextLength 15 = .ok (.bipush 8, 2) := by decide +kernel
theorem dX1_nextLength_17 : decode cX1_nextLength 17 = .ok (.if_icmp .lt 23, 3) := by decide +kernel
theorem dX1_nextLength_20 : decode cX1_nextLength 20 = .ok (.aload_n 0, 1) := by decide +kernel
theorem dX1_nextLength_21 : decode cX1_nextLength 21 = .ok (.getfield 25, 3) := by decide +kernel
theorem dX1_nextLength_24 : decode cX1_nextLength 24 = .ok (.iload_n 2, 1) := by decide +kernel
theorem dX1_nextLength_25 : decode cX1_nextLength 25 = .ok (.invokestatic 83, 3) := by decide +kernel
theorem dX1_nextLength_28 : decode cX1_nextLength 28 = .ok (.iload_n 1, 1) := by decide +kernel
theorem dX1_nextLength_29 : decode cX1_nextLength 29 = .ok (.if_icmp .lt 5, 3) := by decide +kernel
theorem dX1_nextLength_32 : decode cX1_nextLength 32 = .ok (.iload_n 2, 1) := by decide +kernel
theorem dX1_nextLength_33 : decode cX1_nextLength 33 = .ok (.ireturn, 1) := by decide +kernel
theorem dX1_nextLength_34 : decode cX1_nextLength 34 = .ok (.iinc 2 (-1), 3) := by decide +kernel
theorem dX1_nextLength_37 : decode cX1_nextLength 37 = .ok (.goto (-23), 3) := by decide +kernel
theorem dX1_nextLength_40 : decode cX1_nextLength 40 = .ok (.iconst (-1), 1) := by decide +kernel
theorem dX1_nextLength_41 : decode cX1_nextLength 41 = .ok (.ireturn, 1) := by decide +kernel
theorem dX1_buildFromStock_0 : decode cX1_buildFromStock 0 = .ok (.aload_n 0, 1) := by decide +kernel
theorem dX1_buildFromStock_1 : decode cX1_buildFromStock 1 = .ok (.getfield 46, 3) := by decide +kernel
theorem dX1_buildFromStock_4 : decode cX1_buildFromStock 4 = .ok (.istore_n 1, 1) := by decide +kernel
theorem dX1_buildFromStock_5 : decode cX1_buildFromStock 5 = .ok (.iload_n 1, 1) := by decide +kernel
theorem dX1_buildFromStock_6 : decode cX1_buildFromStock 6 = .ok (.bipush 100, 2) := by decide +kernel
theorem dX1_buildFromStock_8 : decode cX1_buildFromStock 8 = .ok (.if_icmp .ge 48, 3) := by decide +kernel
theorem dX1_buildFromStock_11 : decode cX1_buildFromStock 11 = .ok (.aload_n 0, 1) := by decide +kernel
theorem dX1_buildFromStock_12 : decode cX1_buildFromStock 12 = .ok (.invokevirtual 105, 3) := by decide +kernel
theorem dX1_buildFromStock_15 : decode cX1_buildFromStock 15 = .ok (.ifCond .ne 41, 3) := by decide +kernel
theorem dX1_buildFromStock_18 : decode cX1_buildFromStock 18 = .ok (.aload_n 0, 1) := by decide +kernel
theorem dX1_buildFromStock_19 : decode cX1_buildFromStock 19 = .ok (.invokevirtual 148, 3) := by decide +kernel
theorem dX1_buildFromStock_22 : decode cX1_buildFromStock 22 = .ok (.istore_n 2, 1) := by decide +kernel
theorem dX1_buildFromStock_23 : decode cX1_buildFromStock 23 = .ok (.iload_n 2, 1) := by decide +kernel
theorem dX1_buildFromStock_24 : decode cX1_buildFromStock 24 = .ok (.iconst (-1), 1) := by decide +kernel
theorem dX1_buildFromStock_25 : decode cX1_buildFromStock 25 = .ok (.if_icmp .ne 6, 3) := by decide +kernel
theorem dX1_buildFromStock_28 : decode cX1_buildFromStock 28 = .ok (.goto 28, 3) := by decide +kernel
theorem dX1_buildFromStock_31 : decode cX1_buildFromStock 31 = .ok (.aload_n 0, 1) := by decide +kernel
theorem dX1_buildFromStock_32 : decode cX1_buildFromStock 32 = .ok (.getfield 25, 3) := by decide +kernel
theorem dX1_buildFromStock_35 : decode cX1_buildFromStock 35 = .ok (.iload_n 2, 1) := by decide +kernel
theorem dX1_buildFromStock_36 : decode cX1_buildFromStock 36 = .ok (.aload_n 0, 1) := by decide +kernel
theorem dX1_buildFromStock_37 : decode cX1_buildFromStock 37 = .ok (.iload_n 1, 1) := by decide +kernel
theorem dX1_buildFromStock_38 : decode cX1_buildFromStock 38 = .ok (.invokevirtual 79, 3) := by decide +kernel
theorem dX1_buildFromStock_41 : decode cX1_buildFromStock 41 = .ok (.ineg, 1) := by decide +kernel
theorem dX1_buildFromStock_42 : decode cX1_buildFromStock 42 = .ok (.invokestatic 119, 3) := by decide +kernel
theorem dX1_buildFromStock_45 : decode cX1_buildFromStock 45 = .ok (.aload_n 0, 1) := by decide +kernel
theorem dX1_buildFromStock_46 : decode cX1_buildFromStock 46 = .ok (.iload_n 2, 1) := by decide +kernel
theorem dX1_buildFromStock_47 : decode cX1_buildFromStock 47 = .ok (.invokevirtual 151, 3) := by decide +kernel
theorem dX1_buildFromStock_50 : decode cX1_buildFromStock 50 = .ok (.iinc 1 1, 3) := by decide +kernel
theorem dX1_buildFromStock_53 : decode cX1_buildFromStock 53 = .ok (.goto (-48), 3) := by decide +kernel
theorem dX1_buildFromStock_56 : decode cX1_buildFromStock 56 = .ok (.return_, 1) := by decide +kernel
theorem dX1_coursesToTop_0 : decode cX1_coursesToTop 0 = .ok (.aload_n 0, 1) := by decide +kernel
theorem dX1_coursesToTop_1 : decode cX1_coursesToTop 1 = .ok (.getfield 9, 3) := by decide +kernel
theorem dX1_coursesToTop_4 : decode cX1_coursesToTop 4 = .ok (.aload_n 0, 1) := by decide +kernel
theorem dX1_coursesToTop_5 : decode cX1_coursesToTop 5 = .ok (.aload_n 0, 1) := by decide +kernel
theorem dX1_coursesToTop_6 : decode cX1_coursesToTop 6 = .ok (.getfield 46, 3) := by decide +kernel
theorem dX1_coursesToTop_9 : decode cX1_coursesToTop 9 = .ok (.iconst 1, 1) := by decide +kernel
theorem dX1_coursesToTop_10 : decode cX1_coursesToTop 10 = .ok (.isub, 1) := by decide +kernel
theorem dX1_coursesToTop_11 : decode cX1_coursesToTop 11 = .ok (.invokevirtual 102, 3) := by decide +kernel
theorem dX1_coursesToTop_14 : decode cX1_coursesToTop 14 = .ok (.isub, 1) := by decide +kernel
theorem dX1_coursesToTop_15 : decode cX1_coursesToTop 15 = .ok (.istore_n 2, 1) := by decide +kernel
theorem dX1_coursesToTop_16 : decode cX1_coursesToTop 16 = .ok (.aload_n 0, 1) := by decide +kernel
theorem dX1_coursesToTop_17 : decode cX1_coursesToTop 17 = .ok (.iload_n 1, 1) := by decide +kernel
theorem dX1_coursesToTop_18 : decode cX1_coursesToTop 18 = .ok (.invokevirtual 99, 3) := by decide +kernel
theorem dX1_coursesToTop_21 : decode cX1_coursesToTop 21 = .ok (.istore_n 3, 1) := by decide +kernel
theorem dX1_coursesToTop_22 : decode cX1_coursesToTop 22 = .ok (.iload_n 2, 1) := by decide +kernel
theorem dX1_coursesToTop_23 : decode cX1_coursesToTop 23 = .ok (.ifCond .le 17, 3) := by decide +kernel
theorem dX1_coursesToTop_26 : decode cX1_coursesToTop 26 = .ok (.iload_n 3, 1) := by decide +kernel
theorem dX1_coursesToTop_27 : decode cX1_coursesToTop 27 = .ok (.ifCond .le 13, 3) := by decide +kernel
theorem dX1_coursesToTop_30 : decode cX1_coursesToTop 30 = .ok (.iload_n 2, 1) := by decide +kernel
theorem dX1_coursesToTop_31 : decode cX1_coursesToTop 31 = .ok (.iload_n 3, 1) := by decide +kernel
theorem dX1_coursesToTop_32 : decode cX1_coursesToTop 32 = .ok (.iadd, 1) := by decide +kernel
theorem dX1_coursesToTop_33 : decode cX1_coursesToTop 33 = .ok (.iconst 1, 1) := by decide +kernel
theorem dX1_coursesToTop_34 : decode cX1_coursesToTop 34 = .ok (.isub, 1) := by decide +kernel
theorem dX1_coursesToTop_35 : decode cX1_coursesToTop 35 = .ok (.iload_n 3, 1) := by decide +kernel
theorem dX1_coursesToTop_36 : decode cX1_coursesToTop 36 = .ok (.idiv, 1) := by decide +kernel
theorem dX1_coursesToTop_37 : decode cX1_coursesToTop 37 = .ok (.goto 4, 3) := by decide +kernel
theorem dX1_coursesToTop_40 : decode cX1_coursesToTop 40 = .ok (.iconst 0, 1) := by decide +kernel
theorem dX1_coursesToTop_41 : decode cX1_coursesToTop 41 = .ok (.ireturn, 1) := by decide +kernel
theorem dX1_placesOfNext_0 : decode cX1_placesOfNext 0 = .ok (.aload_n 0, 1) := by decide +kernel
theorem dX1_placesOfNext_1 : decode cX1_placesOfNext 1 = .ok (.getfield 46, 3) := by decide +kernel
theorem dX1_placesOfNext_4 : decode cX1_placesOfNext 4 = .ok (.iload_n 1, 1) := by decide +kernel
theorem dX1_placesOfNext_5 : decode cX1_placesOfNext 5 = .ok (.iadd, 1) := by decide +kernel
theorem dX1_placesOfNext_6 : decode cX1_placesOfNext 6 = .ok (.iconst 2, 1) := by decide +kernel
theorem dX1_placesOfNext_7 : decode cX1_placesOfNext 7 = .ok (.idiv, 1) := by decide +kernel
theorem dX1_placesOfNext_8 : decode cX1_placesOfNext 8 = .ok (.aload_n 0, 1) := by decide +kernel
theorem dX1_placesOfNext_9 : decode cX1_placesOfNext 9 = .ok (.getfield 46, 3) := by decide +kernel
theorem dX1_placesOfNext_12 : decode cX1_placesOfNext 12 = .ok (.iconst 2, 1) := by decide +kernel
theorem dX1_placesOfNext_13 : decode cX1_placesOfNext 13 = .ok (.idiv, 1) := by decide +kernel
theorem dX1_placesOfNext_14 : decode cX1_placesOfNext 14 = .ok (.isub, 1) := by decide +kernel
theorem dX1_placesOfNext_15 : decode cX1_placesOfNext 15 = .ok (.istore_n 2, 1) := by decide +kernel
theorem dX1_placesOfNext_16 : decode cX1_placesOfNext 16 = .ok (.iload_n 1, 1) := by decide +kernel
theorem dX1_placesOfNext_17 : decode cX1_placesOfNext 17 = .ok (.aload_n 0, 1) := by decide +kernel
theorem dX1_placesOfNext_18 : decode cX1_placesOfNext 18 = .ok (.getfield 15, 3) := by decide +kernel
theorem dX1_placesOfNext_21 : decode cX1_placesOfNext 21 = .ok (.imul, 1) := by decide +kernel
theorem dX1_placesOfNext_22 : decode cX1_placesOfNext 22 = .ok (.iload_n 2, 1) := by decide +kernel
theorem dX1_placesOfNext_23 : decode cX1_placesOfNext 23 = .ok (.iadd, 1) := by decide +kernel
theorem dX1_placesOfNext_24 : decode cX1_placesOfNext 24 = .ok (.ireturn, 1) := by decide +kernel
theorem dX2_init_0 : decode cX2_init 0 = .ok (.aload_n 0, 1) := by decide +kernel
theorem dX2_init_1 : decode cX2_init 1 = .ok (.invokespecial 3, 3) := by decide +kernel
theorem dX2_init_4 : decode cX2_init 4 = .ok (.aload_n 0, 1) := by decide +kernel
theorem dX2_init_5 : decode cX2_init 5 = .ok (.bipush 6, 2) := by decide +kernel
theorem dX2_init_7 : decode cX2_init 7 = .ok (.anewarray 9, 3) := by decide +kernel
theorem dX2_init_10 : decode cX2_init 10 = .ok (.putfield 11, 3) := by decide +kernel
theorem dX2_init_13 : decode cX2_init 13 = .ok (.iconst 0, 1) := by decide +kernel
theorem dX2_init_14 : decode cX2_init 14 = .ok (.istore_n 1, 1) := by decide +kernel
theorem dX2_init_15 : decode cX2_init 15 = .ok (.iload_n 1, 1) := by decide +kernel
theorem dX2_init_16 : decode cX2_init 16 = .ok (.aload_n 0, 1) := by decide +kernel
theorem dX2_init_17 : decode cX2_init 17 = .ok (.getfield 11, 3) := by decide +kernel
theorem dX2_init_20 : decode cX2_init 20 = .ok (.arraylength, 1) := by decide +kernel
theorem dX2_init_21 : decode cX2_init 21 = .ok (.if_icmp .ge 22, 3) := by decide +kernel
theorem dX2_init_24 : decode cX2_init 24 = .ok (.aload_n 0, 1) := by decide +kernel
theorem dX2_init_25 : decode cX2_init 25 = .ok (.getfield 11, 3) := by decide +kernel
theorem dX2_init_28 : decode cX2_init 28 = .ok (.iload_n 1, 1) := by decide +kernel
theorem dX2_init_29 : decode cX2_init 29 = .ok (.new 9, 3) := by decide +kernel
theorem dX2_init_32 : decode cX2_init 32 = .ok (.dup, 1) := by decide +kernel
theorem dX2_init_33 : decode cX2_init 33 = .ok (.invokespecial 17, 3) := by decide +kernel
theorem dX2_init_36 : decode cX2_init 36 = .ok (.aastore, 1) := by decide +kernel
theorem dX2_init_37 : decode cX2_init 37 = .ok (.iinc 1 1, 3) := by decide +kernel
theorem dX2_init_40 : decode cX2_init 40 = .ok (.goto (-25), 3) := by decide +kernel
theorem dX2_init_43 : decode cX2_init 43 = .ok (.return_, 1) := by decide +kernel
theorem dX2_keep_0 : decode cX2_keep 0 = .ok (.aload_n 0, 1) := by decide +kernel
theorem dX2_keep_1 : decode cX2_keep 1 = .ok (.aload_n 0, 1) := by decide +kernel
theorem dX2_keep_2 : decode cX2_keep 2 = .ok (.getfield 18, 3) := by decide +kernel
theorem dX2_keep_5 : decode cX2_keep 5 = .ok (.aload_n 0, 1) := by decide +kernel
theorem dX2_keep_6 : decode cX2_keep 6 = .ok (.getfield 22, 3) := by decide +kernel
theorem dX2_keep_9 : decode cX2_keep 9 = .ok (.iadd, 1) := by decide +kernel
theorem dX2_keep_10 : decode cX2_keep 10 = .ok (.invokevirtual 25, 3) := by decide +kernel
theorem dX2_keep_13 : decode cX2_keep 13 = .ok (.astore_n 2, 1) := by decide +kernel
theorem dX2_keep_14 : decode cX2_keep 14 = .ok (.aload_n 2, 1) := by decide +kernel
theorem dX2_keep_15 : decode cX2_keep 15 = .ok (.ifnull 8, 3) := by decide +kernel
theorem dX2_keep_18 : decode cX2_keep 18 = .ok (.aload_n 2, 1) := by decide +kernel
theorem dX2_keep_19 : decode cX2_keep 19 = .ok (.aload_n 1, 1) := by decide +kernel
theorem dX2_keep_20 : decode cX2_keep 20 = .ok (.invokevirtual 29, 3) := by decide +kernel
theorem dX2_keep_23 : decode cX2_keep 23 = .ok (.aload_n 0, 1) := by decide +kernel
theorem dX2_keep_24 : decode cX2_keep 24 = .ok (.getfield 22, 3) := by decide +kernel
theorem dX2_keep_27 : decode cX2_keep 27 = .ok (.bipush 6, 2) := by decide +kernel
theorem dX2_keep_29 : decode cX2_keep 29 = .ok (.if_icmp .ge 16, 3) := by decide +kernel
theorem dX2_keep_32 : decode cX2_keep 32 = .ok (.aload_n 0, 1) := by decide +kernel
theorem dX2_keep_33 : decode cX2_keep 33 = .ok (.dup, 1) := by decide +kernel
theorem dX2_keep_34 : decode cX2_keep 34 = .ok (.getfield 22, 3) := by decide +kernel
theorem dX2_keep_37 : decode cX2_keep 37 = .ok (.iconst 1, 1) := by decide +kernel
theorem dX2_keep_38 : decode cX2_keep 38 = .ok (.iadd, 1) := by decide +kernel
theorem dX2_keep_39 : decode cX2_keep 39 = .ok (.putfield 22, 3) := by decide +kernel
theorem dX2_keep_42 : decode cX2_keep 42 = .ok (.goto 16, 3) := by decide +kernel
theorem dX2_keep_45 : decode cX2_keep 45 = .ok (.aload_n 0, 1) := by decide +kernel
theorem dX2_keep_46 : decode cX2_keep 46 = .ok (.aload_n 0, 1) := by decide +kernel
theorem dX2_keep_47 : decode cX2_keep 47 = .ok (.getfield 18, 3) := by decide +kernel
theorem dX2_keep_50 : decode cX2_keep 50 = .ok (.iconst 1, 1) := by decide +kernel
theorem dX2_keep_51 : decode cX2_keep 51 = .ok (.iadd, 1) := by decide +kernel
theorem dX2_keep_52 : decode cX2_keep 52 = .ok (.bipush 6, 2) := by decide +kernel
theorem dX2_keep_54 : decode cX2_keep 54 = .ok (.irem, 1) := by decide +kernel
theorem dX2_keep_55 : decode cX2_keep 55 = .ok (.putfield 18, 3) := by decide +kernel
theorem dX2_keep_58 : decode cX2_keep 58 = .ok (.return_, 1) := by decide +kernel
theorem dX2_bringBack_0 : decode cX2_bringBack 0 = .ok (.aload_n 0, 1) := by decide +kernel
theorem dX2_bringBack_1 : decode cX2_bringBack 1 = .ok (.getfield 22, 3) := by decide +kernel
theorem dX2_bringBack_4 : decode cX2_bringBack 4 = .ok (.ifCond .le 36, 3) := by decide +kernel
theorem dX2_bringBack_7 : decode cX2_bringBack 7 = .ok (.aload_n 0, 1) := by decide +kernel
theorem dX2_bringBack_8 : decode cX2_bringBack 8 = .ok (.dup, 1) := by decide +kernel
theorem dX2_bringBack_9 : decode cX2_bringBack 9 = .ok (.getfield 22, 3) := by decide +kernel
theorem dX2_bringBack_12 : decode cX2_bringBack 12 = .ok (.iconst 1, 1) := by decide +kernel
theorem dX2_bringBack_13 : decode cX2_bringBack 13 = .ok (.isub, 1) := by decide +kernel
theorem dX2_bringBack_14 : decode cX2_bringBack 14 = .ok (.putfield 22, 3) := by decide +kernel
theorem dX2_bringBack_17 : decode cX2_bringBack 17 = .ok (.aload_n 0, 1) := by decide +kernel
theorem dX2_bringBack_18 : decode cX2_bringBack 18 = .ok (.aload_n 0, 1) := by decide +kernel
theorem dX2_bringBack_19 : decode cX2_bringBack 19 = .ok (.getfield 18, 3) := by decide +kernel
theorem dX2_bringBack_22 : decode cX2_bringBack 22 = .ok (.aload_n 0, 1) := by decide +kernel
theorem dX2_bringBack_23 : decode cX2_bringBack 23 = .ok (.getfield 22, 3) := by decide +kernel
theorem dX2_bringBack_26 : decode cX2_bringBack 26 = .ok (.iadd, 1) := by decide +kernel
theorem dX2_bringBack_27 : decode cX2_bringBack 27 = .ok (.invokevirtual 25, 3) := by decide +kernel
theorem dX2_bringBack_30 : decode cX2_bringBack 30 = .ok (.astore_n 2, 1) := by decide +kernel
theorem dX2_bringBack_31 : decode cX2_bringBack 31 = .ok (.aload_n 2, 1) := by decide +kernel
theorem dX2_bringBack_32 : decode cX2_bringBack 32 = .ok (.ifnull 8, 3) := by decide +kernel
theorem dX2_bringBack_35 : decode cX2_bringBack 35 = .ok (.aload_n 1, 1) := by decide +kernel
theorem dX2_bringBack_36 : decode cX2_bringBack 36 = .ok (.aload_n 2, 1) := by decide +kernel
theorem dX2_bringBack_37 : decode cX2_bringBack 37 = .ok (.invokevirtual 29, 3) := by decide +kernel
theorem dX2_bringBack_40 : decode cX2_bringBack 40 = .ok (.return_, 1) := by decide +kernel
theorem dX2_slotAt_0 : decode cX2_slotAt 0 = .ok (.iload_n 1, 1) := by decide +kernel
theorem dX2_slotAt_1 : decode cX2_slotAt 1 = .ok (.bipush 6, 2) := by decide +kernel
theorem dX2_slotAt_3 : decode cX2_slotAt 3 = .ok (.irem, 1) := by decide +kernel
theorem dX2_slotAt_4 : decode cX2_slotAt 4 = .ok (.istore_n 2, 1) := by decide +kernel
theorem dX2_slotAt_5 : decode cX2_slotAt 5 = .ok (.iload_n 2, 1) := by decide +kernel
theorem dX2_slotAt_6 : decode cX2_slotAt 6 = .ok (.ifCond .lt 21, 3) := by decide +kernel
theorem dX2_slotAt_9 : decode cX2_slotAt 9 = .ok (.iload_n 2, 1) := by decide +kernel
theorem dX2_slotAt_10 : decode cX2_slotAt 10 = .ok (.aload_n 0, 1) := by decide +kernel
theorem dX2_slotAt_11 : decode cX2_slotAt 11 = .ok (.getfield 11, 3) := by decide +kernel
theorem dX2_slotAt_14 : decode cX2_slotAt 14 = .ok (.arraylength, 1) := by decide +kernel
theorem dX2_slotAt_15 : decode cX2_slotAt 15 = .ok (.if_icmp .ge 12, 3) := by decide +kernel
theorem dX2_slotAt_18 : decode cX2_slotAt 18 = .ok (.aload_n 0, 1) := by decide +kernel
theorem dX2_slotAt_19 : decode cX2_slotAt 19 = .ok (.getfield 11, 3) := by decide +kernel
theorem dX2_slotAt_22 : decode cX2_slotAt 22 = .ok (.iload_n 2, 1) := by decide +kernel
theorem dX2_slotAt_23 : decode cX2_slotAt 23 = .ok (.aaload, 1) := by decide +kernel
theorem dX2_slotAt_24 : decode cX2_slotAt 24 = .ok (.goto 4, 3) := by decide +kernel
theorem dX2_slotAt_27 : decode cX2_slotAt 27 = .ok (.aconst_null, 1) := by decide +kernel
theorem dX2_slotAt_28 : decode cX2_slotAt 28 = .ok (.areturn, 1) := by decide +kernel
theorem dX3_init_0 : decode cX3_init 0 = .ok (.aload_n 0, 1) := by decide +kernel
theorem dX3_init_1 : decode cX3_init 1 = .ok (.invokespecial 1, 3) := by decide +kernel
theorem dX3_init_4 : decode cX3_init 4 = .ok (.aload_n 0, 1) := by decide +kernel
theorem dX3_init_5 : decode cX3_init 5 = .ok (.new 7, 3) := by decide +kernel
theorem dX3_init_8 : decode cX3_init 8 = .ok (.dup, 1) := by decide +kernel
theorem dX3_init_9 : decode cX3_init 9 = .ok (.invokespecial 9, 3) := by decide +kernel
theorem dX3_init_12 : decode cX3_init 12 = .ok (.putfield 10, 3) := by decide +kernel
theorem dX3_init_15 : decode cX3_init 15 = .ok (.aload_n 0, 1) := by decide +kernel
theorem dX3_init_16 : decode cX3_init 16 = .ok (.new 7, 3) := by decide +kernel
theorem dX3_init_19 : decode cX3_init 19 = .ok (.dup, 1) := by decide +kernel
theorem dX3_init_20 : decode cX3_init 20 = .ok (.invokespecial 9, 3) := by decide +kernel
theorem dX3_init_23 : decode cX3_init 23 = .ok (.putfield 16, 3) := by decide +kernel
theorem dX3_init_26 : decode cX3_init 26 = .ok (.aload_n 0, 1) := by decide +kernel
theorem dX3_init_27 : decode cX3_init 27 = .ok (.new 19, 3) := by decide +kernel
theorem dX3_init_30 : decode cX3_init 30 = .ok (.dup, 1) := by decide +kernel
theorem dX3_init_31 : decode cX3_init 31 = .ok (.invokespecial 21, 3) := by decide +kernel
theorem dX3_init_34 : decode cX3_init 34 = .ok (.putfield 22, 3) := by decide +kernel
theorem dX3_init_37 : decode cX3_init 37 = .ok (.aload_n 0, 1) := by decide +kernel
theorem dX3_init_38 : decode cX3_init 38 = .ok (.new 26, 3) := by decide +kernel
theorem dX3_init_41 : decode cX3_init 41 = .ok (.dup, 1) := by decide +kernel
theorem dX3_init_42 : decode cX3_init 42 = .ok (.invokespecial 28, 3) := by decide +kernel
theorem dX3_init_45 : decode cX3_init 45 = .ok (.putfield 29, 3) := by decide +kernel
theorem dX3_init_48 : decode cX3_init 48 = .ok (.return_, 1) := by decide +kernel
theorem dX3_begin_0 : decode cX3_begin 0 = .ok (.iload_n 1, 1) := by decide +kernel
theorem dX3_begin_1 : decode cX3_begin 1 = .ok (.bipush 20, 2) := by decide +kernel
theorem dX3_begin_3 : decode cX3_begin 3 = .ok (.sipush 400, 3) := by decide +kernel
theorem dX3_begin_6 : decode cX3_begin 6 = .ok (.invokestatic 33, 3) := by decide +kernel
theorem dX3_begin_9 : decode cX3_begin 9 = .ok (.ifCond .eq 13, 3) := by decide +kernel
theorem dX3_begin_12 : decode cX3_begin 12 = .ok (.iload_n 2, 1) := by decide +kernel
theorem dX3_begin_13 : decode cX3_begin 13 = .ok (.iconst 2, 1) := by decide +kernel
theorem dX3_begin_14 : decode cX3_begin 14 = .ok (.bipush 30, 2) := by decide +kernel
theorem dX3_begin_16 : decode cX3_begin 16 = .ok (.invokestatic 33, 3) := by decide +kernel
theorem dX3_begin_19 : decode cX3_begin 19 = .ok (.ifCond .ne 13, 3) := by decide +kernel
theorem dX3_begin_22 : decode cX3_begin 22 = .ok (.new 37, 3) := by decide +kernel
theorem dX3_begin_25 : decode cX3_begin 25 = .ok (.dup, 1) := by decide +kernel
theorem dX3_begin_26 : decode cX3_begin 26 = .ok (.ldc 39, 2) := by decide +kernel
theorem dX3_begin_28 : decode cX3_begin 28 = .ok (.invokespecial 41, 3) := by decide +kernel
theorem dX3_begin_31 : decode cX3_begin 31 = .ok (.athrow, 1) := by decide +kernel
theorem dX3_begin_32 : decode cX3_begin 32 = .ok (.aload_n 0, 1) := by decide +kernel
theorem dX3_begin_33 : decode cX3_begin 33 = .ok (.getfield 22, 3) := by decide +kernel
theorem dX3_begin_36 : decode cX3_begin 36 = .ok (.aload_n 0, 1) := by decide +kernel
theorem dX3_begin_37 : decode cX3_begin 37 = .ok (.getfield 10, 3) := by decide +kernel
theorem dX3_begin_40 : decode cX3_begin 40 = .ok (.invokevirtual 44, 3) := by decide +kernel
theorem dX3_begin_43 : decode cX3_begin 43 = .ok (.aload_n 0, 1) := by decide +kernel
theorem dX3_begin_44 : decode cX3_begin 44 = .ok (.getfield 10, 3) := by decide +kernel
theorem dX3_begin_47 : decode cX3_begin 47 = .ok (.invokevirtual 48, 3) := by decide +kernel
theorem dX3_begin_50 : decode cX3_begin 50 = .ok (.istore_n 3, 1) := by decide +kernel
theorem dX3_begin_51 : decode cX3_begin 51 = .ok (.aload_n 0, 1) := by decide +kernel
theorem dX3_begin_52 : decode cX3_begin 52 = .ok (.getfield 10, 3) := by decide +kernel
theorem dX3_begin_55 : decode cX3_begin 55 = .ok (.dup, 1) := by decide +kernel
theorem dX3_begin_56 : decode cX3_begin 56 = .ok (.getfield 52, 3) := by decide +kernel
theorem dX3_begin_59 : decode cX3_begin 59 = .ok (.iload_n 3, 1) := by decide +kernel
theorem dX3_begin_60 : decode cX3_begin 60 = .ok (.iadd, 1) := by decide +kernel
theorem dX3_begin_61 : decode cX3_begin 61 = .ok (.putfield 52, 3) := by decide +kernel
theorem dX3_begin_64 : decode cX3_begin 64 = .ok (.aload_n 0, 1) := by decide +kernel
theorem dX3_begin_65 : decode cX3_begin 65 = .ok (.getfield 10, 3) := by decide +kernel
theorem dX3_begin_68 : decode cX3_begin 68 = .ok (.iconst 0, 1) := by decide +kernel
theorem dX3_begin_69 : decode cX3_begin 69 = .ok (.putfield 56, 3) := by decide +kernel
theorem dX3_begin_72 : decode cX3_begin 72 = .ok (.aload_n 0, 1) := by decide +kernel
theorem dX3_begin_73 : decode cX3_begin 73 = .ok (.getfield 10, 3) := by decide +kernel
theorem dX3_begin_76 : decode cX3_begin 76 = .ok (.iload_n 1, 1) := by decide +kernel
theorem dX3_begin_77 : decode cX3_begin 77 = .ok (.putfield 59, 3) := by decide +kernel
theorem dX3_begin_80 : decode cX3_begin 80 = .ok (.aload_n 0, 1) := by decide +kernel
theorem dX3_begin_81 : decode cX3_begin 81 = .ok (.getfield 10, 3) := by decide +kernel
theorem dX3_begin_84 : decode cX3_begin 84 = .ok (.iload_n 2, 1) := by decide +kernel
theorem dX3_begin_85 : decode cX3_begin 85 = .ok (.putfield 62, 3) := by decide +kernel
theorem dX3_begin_88 : decode cX3_begin 88 = .ok (.iload_n 3, 1) := by decide +kernel
theorem dX3_begin_89 : decode cX3_begin 89 = .ok (.ireturn, 1) := by decide +kernel
theorem dX3_set_0 : decode cX3_set 0 = .ok (.iload_n 1, 1) := by decide +kernel
theorem dX3_set_1 : decode cX3_set 1 = .ok (.iconst 0, 1) := by decide +kernel
theorem dX3_set_2 : decode cX3_set 2 = .ok (.iconst 2, 1) := by decide +kernel
theorem dX3_set_3 : decode cX3_set 3 = .ok (.invokestatic 33, 3) := by decide +kernel
theorem dX3_set_6 : decode cX3_set 6 = .ok (.ifCond .ne 13, 3) := by decide +kernel
theorem dX3_set_9 : decode cX3_set 9 = .ok (.new 65, 3) := by decide +kernel
theorem dX3_set_12 : decode cX3_set 12 = .ok (.dup, 1) := by decide +kernel
theorem dX3_set_13 : decode cX3_set 13 = .ok (.ldc 67, 2) := by decide +kernel
theorem dX3_set_15 : decode cX3_set 15 = .ok (.invokespecial 69, 3) := by decide +kernel
theorem dX3_set_18 : decode cX3_set 18 = .ok (.athrow, 1) := by decide +kernel
theorem dX3_set_19 : decode cX3_set 19 = .ok (.iload_n 2, 1) := by decide +kernel
theorem dX3_set_20 : decode cX3_set 20 = .ok (.getstatic 70, 3) := by decide +kernel
theorem dX3_set_23 : decode cX3_set 23 = .ok (.iload_n 1, 1) := by decide +kernel
theorem dX3_set_24 : decode cX3_set 24 = .ok (.invokestatic 74, 3) := by decide +kernel
theorem dX3_set_27 : decode cX3_set 27 = .ok (.getstatic 78, 3) := by decide +kernel
theorem dX3_set_30 : decode cX3_set 30 = .ok (.iload_n 1, 1) := by decide +kernel
theorem dX3_set_31 : decode cX3_set 31 = .ok (.invokestatic 74, 3) := by decide +kernel
theorem dX3_set_34 : decode cX3_set 34 = .ok (.invokestatic 33, 3) := by decide +kernel
theorem dX3_set_37 : decode cX3_set 37 = .ok (.ifCond .ne 13, 3) := by decide +kernel
theorem dX3_set_40 : decode cX3_set 40 = .ok (.new 37, 3) := by decide +kernel
theorem dX3_set_43 : decode cX3_set 43 = .ok (.dup, 1) := by decide +kernel
theorem dX3_set_44 : decode cX3_set 44 = .ok (.ldc 81, 2) := by decide +kernel
theorem dX3_set_46 : decode cX3_set 46 = .ok (.invokespecial 41, 3) := by decide +kernel
theorem dX3_set_49 : decode cX3_set 49 = .ok (.athrow, 1) := by decide +kernel
theorem dX3_set_50 : decode cX3_set 50 = .ok (.aload_n 0, 1) := by decide +kernel
theorem dX3_set_51 : decode cX3_set 51 = .ok (.getfield 22, 3) := by decide +kernel
theorem dX3_set_54 : decode cX3_set 54 = .ok (.aload_n 0, 1) := by decide +kernel
theorem dX3_set_55 : decode cX3_set 55 = .ok (.getfield 10, 3) := by decide +kernel
theorem dX3_set_58 : decode cX3_set 58 = .ok (.invokevirtual 44, 3) := by decide +kernel
theorem dX3_set_61 : decode cX3_set 61 = .ok (.aload_n 0, 1) := by decide +kernel
theorem dX3_set_62 : decode cX3_set 62 = .ok (.getfield 10, 3) := by decide +kernel
theorem dX3_set_65 : decode cX3_set 65 = .ok (.iload_n 1, 1) := by decide +kernel
theorem dX3_set_66 : decode cX3_set 66 = .ok (.invokevirtual 83, 3) := by decide +kernel
theorem dX3_set_69 : decode cX3_set 69 = .ok (.istore_n 3, 1) := by decide +kernel
theorem dX3_set_70 : decode cX3_set 70 = .ok (.aload_n 0, 1) := by decide +kernel
theorem dX3_set_71 : decode cX3_set 71 = .ok (.getfield 10, 3) := by decide +kernel
theorem dX3_set_74 : decode cX3_set 74 = .ok (.iload_n 1, 1) := by decide +kernel
theorem dX3_set_75 : decode cX3_set 75 = .ok (.iload_n 2, 1) := by decide +kernel
theorem dX3_set_76 : decode cX3_set 76 = .ok (.invokevirtual 87, 3) := by decide +kernel
theorem dX3_set_79 : decode cX3_set 79 = .ok (.iload_n 3, 1) := by decide +kernel
theorem dX3_set_80 : decode cX3_set 80 = .ok (.ireturn, 1) := by decide +kernel
theorem dX3_buy_0 : decode cX3_buy 0 = .ok (.iload_n 1, 1) := by decide +kernel
theorem dX3_buy_1 : decode cX3_buy 1 = .ok (.invokestatic 91, 3) := by decide +kernel
theorem dX3_buy_4 : decode cX3_buy 4 = .ok (.ifCond .eq 14, 3) := by decide +kernel
theorem dX3_buy_7 : decode cX3_buy 7 = .ok (.iload_n 2, 1) := by decide +kernel
theorem dX3_buy_8 : decode cX3_buy 8 = .ok (.iconst 1, 1) := by decide +kernel
theorem dX3_buy_9 : decode cX3_buy 9 = .ok (.sipush 200, 3) := by decide +kernel
theorem dX3_buy_12 : decode cX3_buy 12 = .ok (.invokestatic 33, 3) := by decide +kernel
theorem dX3_buy_15 : decode cX3_buy 15 = .ok (.ifCond .ne 13, 3) := by decide +kernel
theorem dX3_buy_18 : decode cX3_buy 18 = .ok (.new 37, 3) := by decide +kernel
theorem dX3_buy_21 : decode cX3_buy 21 = .ok (.dup, 1) := by decide +kernel
theorem dX3_buy_22 : decode cX3_buy 22 = .ok (.ldc 95, 2) := by decide +kernel
theorem dX3_buy_24 : decode cX3_buy 24 = .ok (.invokespecial 41, 3) := by decide +kernel
theorem dX3_buy_27 : decode cX3_buy 27 = .ok (.athrow, 1) := by decide +kernel
theorem dX3_buy_28 : decode cX3_buy 28 = .ok (.aload_n 0, 1) := by decide +kernel
theorem dX3_buy_29 : decode cX3_buy 29 = .ok (.getfield 10, 3) := by decide +kernel
theorem dX3_buy_32 : decode cX3_buy 32 = .ok (.getfield 97, 3) := by decide +kernel
theorem dX3_buy_35 : decode cX3_buy 35 = .ok (.invokestatic 100, 3) := by decide +kernel
theorem dX3_buy_38 : decode cX3_buy 38 = .ok (.iload_n 2, 1) := by decide +kernel
theorem dX3_buy_39 : decode cX3_buy 39 = .ok (.iadd, 1) := by decide +kernel
theorem dX3_buy_40 : decode cX3_buy 40 = .ok (.sipush 5000, 3) := by decide +kernel
theorem dX3_buy_43 : decode cX3_buy 43 = .ok (.if_icmp .le 13, 3) := by decide +kernel
theorem dX3_buy_46 : decode cX3_buy 46 = .ok (.new 104, 3) := by decide +kernel
theorem dX3_buy_49 : decode cX3_buy 49 = .ok (.dup, 1) := by decide +kernel
theorem dX3_buy_50 : decode cX3_buy 50 = .ok (.ldc 106, 2) := by decide +kernel
theorem dX3_buy_52 : decode cX3_buy 52 = .ok (.invokespecial 108, 3) := by decide +kernel
theorem dX3_buy_55 : decode cX3_buy 55 = .ok (.athrow, 1) := by decide +kernel
theorem dX3_buy_56 : decode cX3_buy 56 = .ok (.aload_n 0, 1) := by decide +kernel
theorem dX3_buy_57 : decode cX3_buy 57 = .ok (.getfield 22, 3) := by decide +kernel
theorem dX3_buy_60 : decode cX3_buy 60 = .ok (.aload_n 0, 1) := by decide +kernel
theorem dX3_buy_61 : decode cX3_buy 61 = .ok (.getfield 10, 3) := by decide +kernel
theorem dX3_buy_64 : decode cX3_buy 64 = .ok (.invokevirtual 44, 3) := by decide +kernel
theorem dX3_buy_67 : decode cX3_buy 67 = .ok (.iload_n 2, 1) := by decide +kernel
theorem dX3_buy_68 : decode cX3_buy 68 = .ok (.iload_n 3, 1) := by decide +kernel
theorem dX3_buy_69 : decode cX3_buy 69 = .ok (.invokestatic 109, 3) := by decide +kernel
theorem dX3_buy_72 : decode cX3_buy 72 = .ok (.istore 4, 2) := by decide +kernel
theorem dX3_buy_74 : decode cX3_buy 74 = .ok (.aload_n 0, 1) := by decide +kernel
theorem dX3_buy_75 : decode cX3_buy 75 = .ok (.getfield 10, 3) := by decide +kernel
theorem dX3_buy_78 : decode cX3_buy 78 = .ok (.getfield 97, 3) := by decide +kernel
theorem dX3_buy_81 : decode cX3_buy 81 = .ok (.iload_n 1, 1) := by decide +kernel
theorem dX3_buy_82 : decode cX3_buy 82 = .ok (.iload_n 2, 1) := by decide +kernel
theorem dX3_buy_83 : decode cX3_buy 83 = .ok (.invokestatic 113, 3) := by decide +kernel
theorem dX3_buy_86 : decode cX3_buy 86 = .ok (.aload_n 0, 1) := by decide +kernel
theorem dX3_buy_87 : decode cX3_buy 87 = .ok (.getfield 10, 3) := by decide +kernel
theorem dX3_buy_90 : decode cX3_buy 90 = .ok (.getfield 117, 3) := by decide +kernel
theorem dX3_buy_93 : decode cX3_buy 93 = .ok (.iload_n 1, 1) := by decide +kernel
theorem dX3_buy_94 : decode cX3_buy 94 = .ok (.iload_n 2, 1) := by decide +kernel
theorem dX3_buy_95 : decode cX3_buy 95 = .ok (.iload 4, 2) := by decide +kernel
theorem dX3_buy_97 : decode cX3_buy 97 = .ok (.isub, 1) := by decide +kernel
theorem dX3_buy_98 : decode cX3_buy 98 = .ok (.invokestatic 113, 3) := by decide +kernel
theorem dX3_buy_101 : decode cX3_buy 101 = .ok (.aload_n 0, 1) := by decide +kernel
theorem dX3_buy_102 : decode cX3_buy 102 = .ok (.getfield 10, 3) := by decide +kernel
theorem dX3_buy_105 : decode cX3_buy 105 = .ok (.getfield 120, 3) := by decide +kernel
theorem dX3_buy_108 : decode cX3_buy 108 = .ok (.iload_n 1, 1) := by decide +kernel
theorem dX3_buy_109 : decode cX3_buy 109 = .ok (.iload 4, 2) := by decide +kernel
theorem dX3_buy_111 : decode cX3_buy 111 = .ok (.invokestatic 113, 3) := by decide +kernel
theorem dX3_buy_114 : decode cX3_buy 114 = .ok (.aload_n 0, 1) := by decide +kernel
theorem dX3_buy_115 : decode cX3_buy 115 = .ok (.getfield 10, 3) := by decide +kernel
theorem dX3_buy_118 : decode cX3_buy 118 = .ok (.dup, 1) := by decide +kernel
theorem dX3_buy_119 : decode cX3_buy 119 = .ok (.getfield 123, 3) := by decide +kernel
theorem dX3_buy_122 : decode cX3_buy 122 = .ok (.iload_n 2, 1) := by decide +kernel
theorem dX3_buy_123 : decode cX3_buy 123 = .ok (.iload_n 1, 1) := by decide +kernel
theorem dX3_buy_124 : decode cX3_buy 124 = .ok (.invokestatic 126, 3) := by decide +kernel
theorem dX3_buy_127 : decode cX3_buy 127 = .ok (.imul, 1) := by decide +kernel
theorem dX3_buy_128 : decode cX3_buy 128 = .ok (.iadd, 1) := by decide +kernel
theorem dX3_buy_129 : decode cX3_buy 129 = .ok (.putfield 123, 3) := by decide +kernel
theorem dX3_buy_132 : decode cX3_buy 132 = .ok (.iload 4, 2) := by decide +kernel
theorem dX3_buy_134 : decode cX3_buy 134 = .ok (.ireturn, 1) := by decide +kernel
theorem dX3_recut_0 : decode cX3_recut 0 = .ok (.iload_n 1, 1) := by decide +kernel
theorem dX3_recut_1 : decode cX3_recut 1 = .ok (.invokestatic 91, 3) := by decide +kernel
theorem dX3_recut_4 : decode cX3_recut 4 = .ok (.ifCond .eq 32, 3) := by decide +kernel
theorem dX3_recut_7 : decode cX3_recut 7 = .ok (.iload_n 2, 1) := by decide +kernel
theorem dX3_recut_8 : decode cX3_recut 8 = .ok (.bipush 8, 2) := by decide +kernel
theorem dX3_recut_10 : decode cX3_recut 10 = .ok (.bipush 20, 2) := by decide +kernel
theorem dX3_recut_12 : decode cX3_recut 12 = .ok (.invokestatic 33, 3) := by decide +kernel
theorem dX3_recut_15 : decode cX3_recut 15 = .ok (.ifCond .eq 21, 3) := by decide +kernel
theorem dX3_recut_18 : decode cX3_recut 18 = .ok (.iload_n 3, 1) := by decide +kernel
theorem dX3_recut_19 : decode cX3_recut 19 = .ok (.iconst 1, 1) := by decide +kernel
theorem dX3_recut_20 : decode cX3_recut 20 = .ok (.sipush 200, 3) := by decide +kernel
theorem dX3_recut_23 : decode cX3_recut 23 = .ok (.invokestatic 33, 3) := by decide +kernel
theorem dX3_recut_26 : decode cX3_recut 26 = .ok (.ifCond .eq 10, 3) := by decide +kernel
theorem dX3_recut_29 : decode cX3_recut 29 = .ok (.iload_n 2, 1) := by decide +kernel
theorem dX3_recut_30 : decode cX3_recut 30 = .ok (.iload_n 1, 1) := by decide +kernel
theorem dX3_recut_31 : decode cX3_recut 31 = .ok (.iconst 4, 1) := by decide +kernel
theorem dX3_recut_32 : decode cX3_recut 32 = .ok (.isub, 1) := by decide +kernel
theorem dX3_recut_33 : decode cX3_recut 33 = .ok (.if_icmp .le 13, 3) := by decide +kernel
theorem dX3_recut_36 : decode cX3_recut 36 = .ok (.new 37, 3) := by decide +kernel
theorem dX3_recut_39 : decode cX3_recut 39 = .ok (.dup, 1) := by decide +kernel
theorem dX3_recut_40 : decode cX3_recut 40 = .ok (.ldc 129, 2) := by decide +kernel
theorem dX3_recut_42 : decode cX3_recut 42 = .ok (.invokespecial 41, 3) := by decide +kernel
theorem dX3_recut_45 : decode cX3_recut 45 = .ok (.athrow, 1) := by decide +kernel
theorem dX3_recut_46 : decode cX3_recut 46 = .ok (.aload_n 0, 1) := by decide +kernel
theorem dX3_recut_47 : decode cX3_recut 47 = .ok (.getfield 10, 3) := by decide +kernel
theorem dX3_recut_50 : decode cX3_recut 50 = .ok (.getfield 120, 3) := by decide +kernel
theorem dX3_recut_53 : decode cX3_recut 53 = .ok (.iload_n 1, 1) := by decide +kernel
theorem dX3_recut_54 : decode cX3_recut 54 = .ok (.invokestatic 74, 3) := by decide +kernel
theorem dX3_recut_57 : decode cX3_recut 57 = .ok (.iload_n 3, 1) := by decide +kernel
theorem dX3_recut_58 : decode cX3_recut 58 = .ok (.if_icmp .ge 13, 3) := by decide +kernel
theorem dX3_recut_61 : decode cX3_recut 61 = .ok (.new 104, 3) := by decide +kernel
theorem dX3_recut_64 : decode cX3_recut 64 = .ok (.dup, 1) := by decide +kernel
theorem dX3_recut_65 : decode cX3_recut 65 = .ok (.ldc 131, 2) := by decide +kernel
theorem dX3_recut_67 : decode cX3_recut 67 = .ok (.invokespecial 108, 3) := by decide +kernel
theorem dX3_recut_70 : decode cX3_recut 70 = .ok (.athrow, 1) := by decide +kernel
theorem dX3_recut_71 : decode cX3_recut 71 = .ok (.aload_n 0, 1) := by decide +kernel
theorem dX3_recut_72 : decode cX3_recut 72 = .ok (.getfield 22, 3) := by decide +kernel
theorem dX3_recut_75 : decode cX3_recut 75 = .ok (.aload_n 0, 1) := by decide +kernel
theorem dX3_recut_76 : decode cX3_recut 76 = .ok (.getfield 10, 3) := by decide +kernel
theorem dX3_recut_79 : decode cX3_recut 79 = .ok (.invokevirtual 44, 3) := by decide +kernel
theorem dX3_recut_82 : decode cX3_recut 82 = .ok (.aload_n 0, 1) := by decide +kernel
theorem dX3_recut_83 : decode cX3_recut 83 = .ok (.getfield 10, 3) := by decide +kernel
theorem dX3_recut_86 : decode cX3_recut 86 = .ok (.getfield 120, 3) := by decide +kernel
theorem dX3_recut_89 : decode cX3_recut 89 = .ok (.iload_n 1, 1) := by decide +kernel
theorem dX3_recut_90 : decode cX3_recut 90 = .ok (.iload_n 3, 1) := by decide +kernel
theorem dX3_recut_91 : decode cX3_recut 91 = .ok (.ineg, 1) := by decide +kernel
theorem dX3_recut_92 : decode cX3_recut 92 = .ok (.invokestatic 113, 3) := by decide +kernel
theorem dX3_recut_95 : decode cX3_recut 95 = .ok (.aload_n 0, 1) := by decide +kernel
theorem dX3_recut_96 : decode cX3_recut 96 = .ok (.getfield 10, 3) := by decide +kernel
theorem dX3_recut_99 : decode cX3_recut 99 = .ok (.getfield 117, 3) := by decide +kernel
theorem dX3_recut_102 : decode cX3_recut 102 = .ok (.iload_n 2, 1) := by decide +kernel
theorem dX3_recut_103 : decode cX3_recut 103 = .ok (.iload_n 3, 1) := by decide +kernel
theorem dX3_recut_104 : decode cX3_recut 104 = .ok (.invokestatic 113, 3) := by decide +kernel
theorem dX3_recut_107 : decode cX3_recut 107 = .ok (.aload_n 0, 1) := by decide +kernel
theorem dX3_recut_108 : decode cX3_recut 108 = .ok (.getfield 10, 3) := by decide +kernel
theorem dX3_recut_111 : decode cX3_recut 111 = .ok (.dup, 1) := by decide +kernel
theorem dX3_recut_112 : decode cX3_recut 112 = .ok (.getfield 133, 3) := by decide +kernel
theorem dX3_recut_115 : decode cX3_recut 115 = .ok (.iload_n 3, 1) := by decide +kernel
theorem dX3_recut_116 : decode cX3_recut 116 = .ok (.iadd, 1) := by decide +kernel
theorem dX3_recut_117 : decode cX3_recut 117 = .ok (.putfield 133, 3) := by decide +kernel
theorem dX3_recut_120 : decode cX3_recut 120 = .ok (.aload_n 0, 1) := by decide +kernel
theorem dX3_recut_121 : decode cX3_recut 121 = .ok (.getfield 10, 3) := by decide +kernel
theorem dX3_recut_124 : decode cX3_recut 124 = .ok (.getfield 120, 3) := by decide +kernel
theorem dX3_recut_127 : decode cX3_recut 127 = .ok (.iload_n 1, 1) := by decide +kernel
theorem dX3_recut_128 : decode cX3_recut 128 = .ok (.invokestatic 74, 3) := by decide +kernel
theorem dX3_recut_131 : decode cX3_recut 131 = .ok (.ireturn, 1) := by decide +kernel
theorem dX3_clearHeap_0 : decode cX3_clearHeap 0 = .ok (.iload_n 1, 1) := by decide +kernel
theorem dX3_clearHeap_1 : decode cX3_clearHeap 1 = .ok (.bipush 8, 2) := by decide +kernel
theorem dX3_clearHeap_3 : decode cX3_clearHeap 3 = .ok (.bipush 25, 2) := by decide +kernel
theorem dX3_clearHeap_5 : decode cX3_clearHeap 5 = .ok (.invokestatic 33, 3) := by decide +kernel
theorem dX3_clearHeap_8 : decode cX3_clearHeap 8 = .ok (.ifCond .ne 13, 3) := by decide +kernel
theorem dX3_clearHeap_11 : decode cX3_clearHeap 11 = .ok (.new 37, 3) := by decide +kernel
theorem dX3_clearHeap_14 : decode cX3_clearHeap 14 = .ok (.dup, 1) := by decide +kernel
theorem dX3_clearHeap_15 : decode cX3_clearHeap 15 = .ok (.ldc 136, 2) := by decide +kernel
theorem dX3_clearHeap_17 : decode cX3_clearHeap 17 = .ok (.invokespecial 41, 3) := by decide +kernel
theorem dX3_clearHeap_20 : decode cX3_clearHeap 20 = .ok (.athrow, 1) := by decide +kernel
theorem dX3_clearHeap_21 : decode cX3_clearHeap 21 = .ok (.aload_n 0, 1) := by decide +kernel
theorem dX3_clearHeap_22 : decode cX3_clearHeap 22 = .ok (.getfield 22, 3) := by decide +kernel
theorem dX3_clearHeap_25 : decode cX3_clearHeap 25 = .ok (.aload_n 0, 1) := by decide +kernel
theorem dX3_clearHeap_26 : decode cX3_clearHeap 26 = .ok (.getfield 10, 3) := by decide +kernel
theorem dX3_clearHeap_29 : decode cX3_clearHeap 29 = .ok (.invokevirtual 44, 3) := by decide +kernel
theorem dX3_clearHeap_32 : decode cX3_clearHeap 32 = .ok (.iconst 0, 1) := by decide +kernel
theorem dX3_clearHeap_33 : decode cX3_clearHeap 33 = .ok (.istore_n 2, 1) := by decide +kernel
theorem dX3_clearHeap_34 : decode cX3_clearHeap 34 = .ok (.bipush 8, 2) := by decide +kernel
theorem dX3_clearHeap_36 : decode cX3_clearHeap 36 = .ok (.istore_n 3, 1) := by decide +kernel
theorem dX3_clearHeap_37 : decode cX3_clearHeap 37 = .ok (.iload_n 3, 1) := by decide +kernel
theorem dX3_clearHeap_38 : decode cX3_clearHeap 38 = .ok (.iload_n 1, 1) := by decide +kernel
theorem dX3_clearHeap_39 : decode cX3_clearHeap 39 = .ok (.if_icmp .ge 41, 3) := by decide +kernel
theorem dX3_clearHeap_42 : decode cX3_clearHeap 42 = .ok (.aload_n 0, 1) := by decide +kernel
theorem dX3_clearHeap_43 : decode cX3_clearHeap 43 = .ok (.getfield 10, 3) := by decide +kernel
theorem dX3_clearHeap_46 : decode cX3_clearHeap 46 = .ok (.getfield 120, 3) := by decide +kernel
theorem dX3_clearHeap_49 : decode cX3_clearHeap 49 = .ok (.iload_n 3, 1) := by decide +kernel
theorem dX3_clearHeap_50 : decode cX3_clearHeap 50 = .ok (.invokestatic 74, 3) := by decide +kernel
theorem dX3_clearHeap_53 : decode cX3_clearHeap 53 = .ok (.istore 4, 2) := by decide +kernel
theorem dX3_clearHeap_55 : decode cX3_clearHeap 55 = .ok (.aload_n 0, 1) := by decide +kernel
theorem dX3_clearHeap_56 : decode cX3_clearHeap 56 = .ok (.getfield 10, 3) := by decide +kernel
theorem dX3_clearHeap_59 : decode cX3_clearHeap 59 = .ok (.getfield 120, 3) := by decide +kernel
theorem dX3_clearHeap_62 : decode cX3_clearHeap 62 = .ok (.iload_n 3, 1) := by decide +kernel
theorem dX3_clearHeap_63 : decode cX3_clearHeap 63 = .ok (.iload 4, 2) := by decide +kernel
theorem dX3_clearHeap_65 : decode cX3_clearHeap 65 = .ok (.ineg, 1) := by decide +kernel
theorem dX3_clearHeap_66 : decode cX3_clearHeap 66 = .ok (.invokestatic 113, 3) := by decide +kernel
theorem dX3_clearHeap_69 : decode cX3_clearHeap 69 = .ok (.iload_n 2, 1) := by decide +kernel
theorem dX3_clearHeap_70 : decode cX3_clearHeap 70 = .ok (.iload 4, 2) := by decide +kernel
theorem dX3_clearHeap_72 : decode cX3_clearHeap 72 = .ok (.iadd, 1) := by decide +kernel
theorem dX3_clearHeap_73 : decode cX3_clearHeap 73 = .ok (.istore_n 2, 1) := by decide +kernel
theorem dX3_clearHeap_74 : decode cX3_clearHeap 74 = .ok (.iinc 3 1, 3) := by decide +kernel
theorem dX3_clearHeap_77 : decode cX3_clearHeap 77 = .ok (.goto (-40), 3) := by decide +kernel
theorem dX3_clearHeap_80 : decode cX3_clearHeap 80 = .ok (.aload_n 0, 1) := by decide +kernel
theorem dX3_clearHeap_81 : decode cX3_clearHeap 81 = .ok (.getfield 10, 3) := by decide +kernel
theorem dX3_clearHeap_84 : decode cX3_clearHeap 84 = .ok (.dup, 1) := by decide +kernel
theorem dX3_clearHeap_85 : decode cX3_clearHeap 85 = .ok (.getfield 138, 3) := by decide +kernel
theorem dX3_clearHeap_88 : decode cX3_clearHeap 88 = .ok (.iload_n 2, 1) := by decide +kernel
theorem dX3_clearHeap_89 : decode cX3_clearHeap 89 = .ok (.iadd, 1) := by decide +kernel
theorem dX3_clearHeap_90 : decode cX3_clearHeap 90 = .ok (.putfield 138, 3) := by decide +kernel
theorem dX3_clearHeap_93 : decode cX3_clearHeap 93 = .ok (.iload_n 2, 1) := by decide +kernel
theorem dX3_clearHeap_94 : decode cX3_clearHeap 94 = .ok (.ireturn, 1) := by decide +kernel
theorem dX3_course_0 : decode cX3_course 0 = .ok (.iload_n 1, 1) := by decide +kernel
theorem dX3_course_1 : decode cX3_course 1 = .ok (.invokestatic 91, 3) := by decide +kernel
theorem dX3_course_4 : decode cX3_course 4 = .ok (.ifCond .ne 13, 3) := by decide +kernel
theorem dX3_course_7 : decode cX3_course 7 = .ok (.new 37, 3) := by decide +kernel
theorem dX3_course_10 : decode cX3_course 10 = .ok (.dup, 1) := by decide +kernel
theorem dX3_course_11 : decode cX3_course 11 = .ok (.ldc 136, 2) := by decide +kernel
theorem dX3_course_13 : decode cX3_course 13 = .ok (.invokespecial 41, 3) := by decide +kernel
theorem dX3_course_16 : decode cX3_course 16 = .ok (.athrow, 1) := by decide +kernel
theorem dX3_course_17 : decode cX3_course 17 = .ok (.aload_n 0, 1) := by decide +kernel
theorem dX3_course_18 : decode cX3_course 18 = .ok (.getfield 10, 3) := by decide +kernel
theorem dX3_course_21 : decode cX3_course 21 = .ok (.invokevirtual 141, 3) := by decide +kernel
theorem dX3_course_24 : decode cX3_course 24 = .ok (.ifCond .eq 24, 3) := by decide +kernel
theorem dX3_course_27 : decode cX3_course 27 = .ok (.aload_n 0, 1) := by decide +kernel
theorem dX3_course_28 : decode cX3_course 28 = .ok (.getfield 10, 3) := by decide +kernel
theorem dX3_course_31 : decode cX3_course 31 = .ok (.invokevirtual 145, 3) := by decide +kernel
theorem dX3_course_34 : decode cX3_course 34 = .ok (.ifCond .eq 14, 3) := by decide +kernel
theorem dX3_course_37 : decode cX3_course 37 = .ok (.iload_n 1, 1) := by decide +kernel
theorem dX3_course_38 : decode cX3_course 38 = .ok (.aload_n 0, 1) := by decide +kernel
theorem dX3_course_39 : decode cX3_course 39 = .ok (.getfield 10, 3) := by decide +kernel
theorem dX3_course_42 : decode cX3_course 42 = .ok (.invokevirtual 148, 3) := by decide +kernel
theorem dX3_course_45 : decode cX3_course 45 = .ok (.if_icmp .le 13, 3) := by decide +kernel
theorem dX3_course_48 : decode cX3_course 48 = .ok (.new 104, 3) := by decide +kernel
theorem dX3_course_51 : decode cX3_course 51 = .ok (.dup, 1) := by decide +kernel
theorem dX3_course_52 : decode cX3_course 52 = .ok (.ldc 151, 2) := by decide +kernel
theorem dX3_course_54 : decode cX3_course 54 = .ok (.invokespecial 108, 3) := by decide +kernel
theorem dX3_course_57 : decode cX3_course 57 = .ok (.athrow, 1) := by decide +kernel
theorem dX3_course_58 : decode cX3_course 58 = .ok (.aload_n 0, 1) := by decide +kernel
theorem dX3_course_59 : decode cX3_course 59 = .ok (.getfield 22, 3) := by decide +kernel
theorem dX3_course_62 : decode cX3_course 62 = .ok (.aload_n 0, 1) := by decide +kernel
theorem dX3_course_63 : decode cX3_course 63 = .ok (.getfield 10, 3) := by decide +kernel
theorem dX3_course_66 : decode cX3_course 66 = .ok (.invokevirtual 44, 3) := by decide +kernel
theorem dX3_course_69 : decode cX3_course 69 = .ok (.aload_n 0, 1) := by decide +kernel
theorem dX3_course_70 : decode cX3_course 70 = .ok (.getfield 10, 3) := by decide +kernel
theorem dX3_course_73 : decode cX3_course 73 = .ok (.iload_n 1, 1) := by decide +kernel
theorem dX3_course_74 : decode cX3_course 74 = .ok (.invokevirtual 153, 3) := by decide +kernel
theorem dX3_course_77 : decode cX3_course 77 = .ok (.aload_n 0, 1) := by decide +kernel
theorem dX3_course_78 : decode cX3_course 78 = .ok (.getfield 10, 3) := by decide +kernel
theorem dX3_course_81 : decode cX3_course 81 = .ok (.getfield 56, 3) := by decide +kernel
theorem dX3_course_84 : decode cX3_course 84 = .ok (.iconst 1, 1) := by decide +kernel
theorem dX3_course_85 : decode cX3_course 85 = .ok (.isub, 1) := by decide +kernel
theorem dX3_course_86 : decode cX3_course 86 = .ok (.ireturn, 1) := by decide +kernel
theorem dX3_lay_0 : decode cX3_lay 0 = .ok (.iload_n 1, 1) := by decide +kernel
theorem dX3_lay_1 : decode cX3_lay 1 = .ok (.iconst 1, 1) := by decide +kernel
theorem dX3_lay_2 : decode cX3_lay 2 = .ok (.bipush 60, 2) := by decide +kernel
theorem dX3_lay_4 : decode cX3_lay 4 = .ok (.invokestatic 33, 3) := by decide +kernel
theorem dX3_lay_7 : decode cX3_lay 7 = .ok (.ifCond .ne 13, 3) := by decide +kernel
theorem dX3_lay_10 : decode cX3_lay 10 = .ok (.new 37, 3) := by decide +kernel
theorem dX3_lay_13 : decode cX3_lay 13 = .ok (.dup, 1) := by decide +kernel
theorem dX3_lay_14 : decode cX3_lay 14 = .ok (.ldc 157, 2) := by decide +kernel
theorem dX3_lay_16 : decode cX3_lay 16 = .ok (.invokespecial 41, 3) := by decide +kernel
theorem dX3_lay_19 : decode cX3_lay 19 = .ok (.athrow, 1) := by decide +kernel
theorem dX3_lay_20 : decode cX3_lay 20 = .ok (.aload_n 0, 1) := by decide +kernel
theorem dX3_lay_21 : decode cX3_lay 21 = .ok (.getfield 10, 3) := by decide +kernel
theorem dX3_lay_24 : decode cX3_lay 24 = .ok (.invokevirtual 141, 3) := by decide +kernel
theorem dX3_lay_27 : decode cX3_lay 27 = .ok (.ifCond .eq 14, 3) := by decide +kernel
theorem dX3_lay_30 : decode cX3_lay 30 = .ok (.aload_n 0, 1) := by decide +kernel
theorem dX3_lay_31 : decode cX3_lay 31 = .ok (.getfield 10, 3) := by decide +kernel
theorem dX3_lay_34 : decode cX3_lay 34 = .ok (.iload_n 1, 1) := by decide +kernel
theorem dX3_lay_35 : decode cX3_lay 35 = .ok (.invokevirtual 159, 3) := by decide +kernel
theorem dX3_lay_38 : decode cX3_lay 38 = .ok (.ifCond .ne 13, 3) := by decide +kernel
theorem dX3_lay_41 : decode cX3_lay 41 = .ok (.new 104, 3) := by decide +kernel
theorem dX3_lay_44 : decode cX3_lay 44 = .ok (.dup, 1) := by decide +kernel
theorem dX3_lay_45 : decode cX3_lay 45 = .ok (.ldc 162, 2) := by decide +kernel
theorem dX3_lay_47 : decode cX3_lay 47 = .ok (.invokespecial 108, 3) := by decide +kernel
theorem dX3_lay_50 : decode cX3_lay 50 = .ok (.athrow, 1) := by decide +kernel
theorem dX3_lay_51 : decode cX3_lay 51 = .ok (.aload_n 0, 1) := by decide +kernel
theorem dX3_lay_52 : decode cX3_lay 52 = .ok (.getfield 22, 3) := by decide +kernel
theorem dX3_lay_55 : decode cX3_lay 55 = .ok (.aload_n 0, 1) := by decide +kernel
theorem dX3_lay_56 : decode cX3_lay 56 = .ok (.getfield 10, 3) := by decide +kernel
theorem dX3_lay_59 : decode cX3_lay 59 = .ok (.invokevirtual 44, 3) := by decide +kernel
theorem dX3_lay_62 : decode cX3_lay 62 = .ok (.aload_n 0, 1) := by decide +kernel
theorem dX3_lay_63 : decode cX3_lay 63 = .ok (.getfield 10, 3) := by decide +kernel
theorem dX3_lay_66 : decode cX3_lay 66 = .ok (.getfield 56, 3) := by decide +kernel
theorem dX3_lay_69 : decode cX3_lay 69 = .ok (.iconst 1, 1) := by decide +kernel
theorem dX3_lay_70 : decode cX3_lay 70 = .ok (.isub, 1) := by decide +kernel
theorem dX3_lay_71 : decode cX3_lay 71 = .ok (.istore_n 2, 1) := by decide +kernel
theorem dX3_lay_72 : decode cX3_lay 72 = .ok (.iconst 0, 1) := by decide +kernel
theorem dX3_lay_73 : decode cX3_lay 73 = .ok (.istore_n 3, 1) := by decide +kernel
theorem dX3_lay_74 : decode cX3_lay 74 = .ok (.iload_n 3, 1) := by decide +kernel
theorem dX3_lay_75 : decode cX3_lay 75 = .ok (.iload_n 1, 1) := by decide +kernel
theorem dX3_lay_76 : decode cX3_lay 76 = .ok (.if_icmp .ge 26, 3) := by decide +kernel
theorem dX3_lay_79 : decode cX3_lay 79 = .ok (.aload_n 0, 1) := by decide +kernel
theorem dX3_lay_80 : decode cX3_lay 80 = .ok (.getfield 10, 3) := by decide +kernel
theorem dX3_lay_83 : decode cX3_lay 83 = .ok (.iload_n 2, 1) := by decide +kernel
theorem dX3_lay_84 : decode cX3_lay 84 = .ok (.aload_n 0, 1) := by decide +kernel
theorem dX3_lay_85 : decode cX3_lay 85 = .ok (.getfield 10, 3) := by decide +kernel
theorem dX3_lay_88 : decode cX3_lay 88 = .ok (.iload_n 2, 1) := by decide +kernel
theorem dX3_lay_89 : decode cX3_lay 89 = .ok (.invokevirtual 164, 3) := by decide +kernel
theorem dX3_lay_92 : decode cX3_lay 92 = .ok (.iconst 1, 1) := by decide +kernel
theorem dX3_lay_93 : decode cX3_lay 93 = .ok (.invokevirtual 167, 3) := by decide +kernel
theorem dX3_lay_96 : decode cX3_lay 96 = .ok (.iinc 3 1, 3) := by decide +kernel
theorem dX3_lay_99 : decode cX3_lay 99 = .ok (.goto (-25), 3) := by decide +kernel
theorem dX3_lay_102 : decode cX3_lay 102 = .ok (.aload_n 0, 1) := by decide +kernel
theorem dX3_lay_103 : decode cX3_lay 103 = .ok (.getfield 10, 3) := by decide +kernel
theorem dX3_lay_106 : decode cX3_lay 106 = .ok (.iload_n 2, 1) := by decide +kernel
theorem dX3_lay_107 : decode cX3_lay 107 = .ok (.invokevirtual 171, 3) := by decide +kernel
theorem dX3_lay_110 : decode cX3_lay 110 = .ok (.ireturn, 1) := by decide +kernel
theorem dX3_mend_0 : decode cX3_mend 0 = .ok (.aload_n 0, 1) := by decide +kernel
theorem dX3_mend_1 : decode cX3_mend 1 = .ok (.getfield 10, 3) := by decide +kernel
theorem dX3_mend_4 : decode cX3_mend 4 = .ok (.iload_n 1, 1) := by decide +kernel
theorem dX3_mend_5 : decode cX3_mend 5 = .ok (.iload_n 2, 1) := by decide +kernel
theorem dX3_mend_6 : decode cX3_mend 6 = .ok (.invokevirtual 174, 3) := by decide +kernel
theorem dX3_mend_9 : decode cX3_mend 9 = .ok (.ifCond .ne 13, 3) := by decide +kernel
theorem dX3_mend_12 : decode cX3_mend 12 = .ok (.new 65, 3) := by decide +kernel
theorem dX3_mend_15 : decode cX3_mend 15 = .ok (.dup, 1) := by decide +kernel
theorem dX3_mend_16 : decode cX3_mend 16 = .ok (.ldc 178, 2) := by decide +kernel
theorem dX3_mend_18 : decode cX3_mend 18 = .ok (.invokespecial 69, 3) := by decide +kernel
theorem dX3_mend_21 : decode cX3_mend 21 = .ok (.athrow, 1) := by decide +kernel
theorem dX3_mend_22 : decode cX3_mend 22 = .ok (.aload_n 0, 1) := by decide +kernel
theorem dX3_mend_23 : decode cX3_mend 23 = .ok (.getfield 10, 3) := by decide +kernel
theorem dX3_mend_26 : decode cX3_mend 26 = .ok (.invokevirtual 141, 3) := by decide +kernel
theorem dX3_mend_29 : decode cX3_mend 29 = .ok (.ifCond .eq 15, 3) := by decide +kernel
theorem dX3_mend_32 : decode cX3_mend 32 = .ok (.aload_n 0, 1) := by decide +kernel
theorem dX3_mend_33 : decode cX3_mend 33 = .ok (.getfield 10, 3) := by decide +kernel
theorem dX3_mend_36 : decode cX3_mend 36 = .ok (.iload_n 1, 1) := by decide +kernel
theorem dX3_mend_37 : decode cX3_mend 37 = .ok (.iload_n 2, 1) := by decide +kernel
theorem dX3_mend_38 : decode cX3_mend 38 = .ok (.invokevirtual 180, 3) := by decide +kernel
theorem dX3_mend_41 : decode cX3_mend 41 = .ok (.ifCond .ne 13, 3) := by decide +kernel
theorem dX3_mend_44 : decode cX3_mend 44 = .ok (.new 104, 3) := by decide +kernel
theorem dX3_mend_47 : decode cX3_mend 47 = .ok (.dup, 1) := by decide +kernel
theorem dX3_mend_48 : decode cX3_mend 48 = .ok (.ldc 183, 2) := by decide +kernel
theorem dX3_mend_50 : decode cX3_mend 50 = .ok (.invokespecial 108, 3) := by decide +kernel
theorem dX3_mend_53 : decode cX3_mend 53 = .ok (.athrow, 1) := by decide +kernel
theorem dX3_mend_54 : decode cX3_mend 54 = .ok (.aload_n 0, 1) := by decide +kernel
theorem dX3_mend_55 : decode cX3_mend 55 = .ok (.getfield 22, 3) := by decide +kernel
theorem dX3_mend_58 : decode cX3_mend 58 = .ok (.aload_n 0, 1) := by decide +kernel
theorem dX3_mend_59 : decode cX3_mend 59 = .ok (.getfield 10, 3) := by decide +kernel
theorem dX3_mend_62 : decode cX3_mend 62 = .ok (.invokevirtual 44, 3) := by decide +kernel
theorem dX3_mend_65 : decode cX3_mend 65 = .ok (.aload_n 0, 1) := by decide +kernel
theorem dX3_mend_66 : decode cX3_mend 66 = .ok (.getfield 10, 3) := by decide +kernel
theorem dX3_mend_69 : decode cX3_mend 69 = .ok (.iload_n 1, 1) := by decide +kernel
theorem dX3_mend_70 : decode cX3_mend 70 = .ok (.iload_n 2, 1) := by decide +kernel
theorem dX3_mend_71 : decode cX3_mend 71 = .ok (.iconst 3, 1) := by decide +kernel
theorem dX3_mend_72 : decode cX3_mend 72 = .ok (.invokevirtual 167, 3) := by decide +kernel
theorem dX3_mend_75 : decode cX3_mend 75 = .ok (.aload_n 0, 1) := by decide +kernel
theorem dX3_mend_76 : decode cX3_mend 76 = .ok (.getfield 10, 3) := by decide +kernel
theorem dX3_mend_79 : decode cX3_mend 79 = .ok (.getfield 185, 3) := by decide +kernel
theorem dX3_mend_82 : decode cX3_mend 82 = .ok (.ireturn, 1) := by decide +kernel
theorem dX3_cover_0 : decode cX3_cover 0 = .ok (.aload_n 0, 1) := by decide +kernel
theorem dX3_cover_1 : decode cX3_cover 1 = .ok (.getfield 22, 3) := by decide +kernel
theorem dX3_cover_4 : decode cX3_cover 4 = .ok (.aload_n 0, 1) := by decide +kernel
theorem dX3_cover_5 : decode cX3_cover 5 = .ok (.getfield 10, 3) := by decide +kernel
theorem dX3_cover_8 : decode cX3_cover 8 = .ok (.invokevirtual 44, 3) := by decide +kernel
theorem dX3_cover_11 : decode cX3_cover 11 = .ok (.aload_n 0, 1) := by decide +kernel
end
section
theorem dX3_cover_12 : decode cX3_cover 12 = .ok (.getfield 10, 3) := by decide +kernel
theorem dX3_cover_15 : decode cX3_cover 15 = .ok (.getfield 188, 3) := by decide +kernel
theorem dX3_cover_18 : decode cX3_cover 18 = .ok (.ifCond .eq 7, 3) := by decide +kernel
theorem dX3_cover_21 : decode cX3_cover 21 = .ok (.iconst 1, 1) := by decide +kernel
theorem dX3_cover_22 : decode cX3_cover 22 = .ok (.goto 4, 3) := by decide +kernel
theorem dX3_cover_25 : decode cX3_cover 25 = .ok (.iconst 0, 1) := by decide +kernel
theorem dX3_cover_26 : decode cX3_cover 26 = .ok (.istore_n 2, 1) := by decide +kernel
theorem dX3_cover_27 : decode cX3_cover 27 = .ok (.aload_n 0, 1) := by decide +kernel
theorem dX3_cover_28 : decode cX3_cover 28 = .ok (.getfield 10, 3) := by decide +kernel
theorem dX3_cover_31 : decode cX3_cover 31 = .ok (.iload_n 1, 1) := by decide +kernel
theorem dX3_cover_32 : decode cX3_cover 32 = .ok (.putfield 188, 3) := by decide +kernel
theorem dX3_cover_35 : decode cX3_cover 35 = .ok (.iload_n 2, 1) := by decide +kernel
theorem dX3_cover_36 : decode cX3_cover 36 = .ok (.ireturn, 1) := by decide +kernel
theorem dX3_pass_0 : decode cX3_pass 0 = .ok (.iload_n 1, 1) := by decide +kernel
theorem dX3_pass_1 : decode cX3_pass 1 = .ok (.iconst 0, 1) := by decide +kernel
theorem dX3_pass_2 : decode cX3_pass 2 = .ok (.iconst 2, 1) := by decide +kernel
theorem dX3_pass_3 : decode cX3_pass 3 = .ok (.invokestatic 33, 3) := by decide +kernel
theorem dX3_pass_6 : decode cX3_pass 6 = .ok (.ifCond .ne 13, 3) := by decide +kernel
theorem dX3_pass_9 : decode cX3_pass 9 = .ok (.new 37, 3) := by decide +kernel
theorem dX3_pass_12 : decode cX3_pass 12 = .ok (.dup, 1) := by decide +kernel
theorem dX3_pass_13 : decode cX3_pass 13 = .ok (.ldc 192, 2) := by decide +kernel
theorem dX3_pass_15 : decode cX3_pass 15 = .ok (.invokespecial 41, 3) := by decide +kernel
theorem dX3_pass_18 : decode cX3_pass 18 = .ok (.athrow, 1) := by decide +kernel
theorem dX3_pass_19 : decode cX3_pass 19 = .ok (.aload_n 0, 1) := by decide +kernel
theorem dX3_pass_20 : decode cX3_pass 20 = .ok (.getfield 10, 3) := by decide +kernel
theorem dX3_pass_23 : decode cX3_pass 23 = .ok (.getfield 194, 3) := by decide +kernel
theorem dX3_pass_26 : decode cX3_pass 26 = .ok (.sipush 1000, 3) := by decide +kernel
theorem dX3_pass_29 : decode cX3_pass 29 = .ok (.if_icmp .lt 13, 3) := by decide +kernel
theorem dX3_pass_32 : decode cX3_pass 32 = .ok (.new 104, 3) := by decide +kernel
theorem dX3_pass_35 : decode cX3_pass 35 = .ok (.dup, 1) := by decide +kernel
theorem dX3_pass_36 : decode cX3_pass 36 = .ok (.ldc 197, 2) := by decide +kernel
theorem dX3_pass_38 : decode cX3_pass 38 = .ok (.invokespecial 108, 3) := by decide +kernel
theorem dX3_pass_41 : decode cX3_pass 41 = .ok (.athrow, 1) := by decide +kernel
theorem dX3_pass_42 : decode cX3_pass 42 = .ok (.aload_n 0, 1) := by decide +kernel
theorem dX3_pass_43 : decode cX3_pass 43 = .ok (.getfield 22, 3) := by decide +kernel
theorem dX3_pass_46 : decode cX3_pass 46 = .ok (.aload_n 0, 1) := by decide +kernel
theorem dX3_pass_47 : decode cX3_pass 47 = .ok (.getfield 10, 3) := by decide +kernel
theorem dX3_pass_50 : decode cX3_pass 50 = .ok (.invokevirtual 44, 3) := by decide +kernel
theorem dX3_pass_53 : decode cX3_pass 53 = .ok (.aload_n 0, 1) := by decide +kernel
theorem dX3_pass_54 : decode cX3_pass 54 = .ok (.getfield 10, 3) := by decide +kernel
theorem dX3_pass_57 : decode cX3_pass 57 = .ok (.iload_n 1, 1) := by decide +kernel
theorem dX3_pass_58 : decode cX3_pass 58 = .ok (.invokevirtual 199, 3) := by decide +kernel
theorem dX3_pass_61 : decode cX3_pass 61 = .ok (.ireturn, 1) := by decide +kernel
theorem dX3_append_0 : decode cX3_append 0 = .ok (.iload_n 1, 1) := by decide +kernel
theorem dX3_append_1 : decode cX3_append 1 = .ok (.bipush 33, 2) := by decide +kernel
theorem dX3_append_3 : decode cX3_append 3 = .ok (.bipush 126, 2) := by decide +kernel
theorem dX3_append_5 : decode cX3_append 5 = .ok (.invokestatic 33, 3) := by decide +kernel
theorem dX3_append_8 : decode cX3_append 8 = .ok (.ifCond .ne 13, 3) := by decide +kernel
theorem dX3_append_11 : decode cX3_append 11 = .ok (.new 37, 3) := by decide +kernel
theorem dX3_append_14 : decode cX3_append 14 = .ok (.dup, 1) := by decide +kernel
theorem dX3_append_15 : decode cX3_append 15 = .ok (.ldc 202, 2) := by decide +kernel
theorem dX3_append_17 : decode cX3_append 17 = .ok (.invokespecial 41, 3) := by decide +kernel
theorem dX3_append_20 : decode cX3_append 20 = .ok (.athrow, 1) := by decide +kernel
theorem dX3_append_21 : decode cX3_append 21 = .ok (.aload_n 0, 1) := by decide +kernel
theorem dX3_append_22 : decode cX3_append 22 = .ok (.getfield 29, 3) := by decide +kernel
theorem dX3_append_25 : decode cX3_append 25 = .ok (.getfield 204, 3) := by decide +kernel
theorem dX3_append_28 : decode cX3_append 28 = .ok (.bipush 60, 2) := by decide +kernel
theorem dX3_append_30 : decode cX3_append 30 = .ok (.if_icmp .lt 13, 3) := by decide +kernel
theorem dX3_append_33 : decode cX3_append 33 = .ok (.new 104, 3) := by decide +kernel
theorem dX3_append_36 : decode cX3_append 36 = .ok (.dup, 1) := by decide +kernel
theorem dX3_append_37 : decode cX3_append 37 = .ok (.ldc 207, 2) := by decide +kernel
theorem dX3_append_39 : decode cX3_append 39 = .ok (.invokespecial 108, 3) := by decide +kernel
theorem dX3_append_42 : decode cX3_append 42 = .ok (.athrow, 1) := by decide +kernel
theorem dX3_append_43 : decode cX3_append 43 = .ok (.aload_n 0, 1) := by decide +kernel
theorem dX3_append_44 : decode cX3_append 44 = .ok (.getfield 29, 3) := by decide +kernel
theorem dX3_append_47 : decode cX3_append 47 = .ok (.iload_n 1, 1) := by decide +kernel
theorem dX3_append_48 : decode cX3_append 48 = .ok (.i2c, 1) := by decide +kernel
theorem dX3_append_49 : decode cX3_append 49 = .ok (.invokevirtual 209, 3) := by decide +kernel
theorem dX3_append_52 : decode cX3_append 52 = .ok (.aload_n 0, 1) := by decide +kernel
theorem dX3_append_53 : decode cX3_append 53 = .ok (.getfield 29, 3) := by decide +kernel
theorem dX3_append_56 : decode cX3_append 56 = .ok (.getfield 204, 3) := by decide +kernel
theorem dX3_append_59 : decode cX3_append 59 = .ok (.ireturn, 1) := by decide +kernel
theorem dX3_clearBuffer_0 : decode cX3_clearBuffer 0 = .ok (.aload_n 0, 1) := by decide +kernel
theorem dX3_clearBuffer_1 : decode cX3_clearBuffer 1 = .ok (.getfield 29, 3) := by decide +kernel
theorem dX3_clearBuffer_4 : decode cX3_clearBuffer 4 = .ok (.getfield 204, 3) := by decide +kernel
theorem dX3_clearBuffer_7 : decode cX3_clearBuffer 7 = .ok (.istore_n 1, 1) := by decide +kernel
theorem dX3_clearBuffer_8 : decode cX3_clearBuffer 8 = .ok (.aload_n 0, 1) := by decide +kernel
theorem dX3_clearBuffer_9 : decode cX3_clearBuffer 9 = .ok (.getfield 29, 3) := by decide +kernel
theorem dX3_clearBuffer_12 : decode cX3_clearBuffer 12 = .ok (.iconst 0, 1) := by decide +kernel
theorem dX3_clearBuffer_13 : decode cX3_clearBuffer 13 = .ok (.putfield 204, 3) := by decide +kernel
theorem dX3_clearBuffer_16 : decode cX3_clearBuffer 16 = .ok (.iload_n 1, 1) := by decide +kernel
theorem dX3_clearBuffer_17 : decode cX3_clearBuffer 17 = .ok (.ireturn, 1) := by decide +kernel
theorem dX3_firstError_0 : decode cX3_firstError 0 = .ok (.aload_n 0, 1) := by decide +kernel
theorem dX3_firstError_1 : decode cX3_firstError 1 = .ok (.getfield 29, 3) := by decide +kernel
theorem dX3_firstError_4 : decode cX3_firstError 4 = .ok (.invokevirtual 213, 3) := by decide +kernel
theorem dX3_firstError_7 : decode cX3_firstError 7 = .ok (.ireturn, 1) := by decide +kernel
theorem dX3_work_0 : decode cX3_work 0 = .ok (.aload_n 0, 1) := by decide +kernel
theorem dX3_work_1 : decode cX3_work 1 = .ok (.getfield 29, 3) := by decide +kernel
theorem dX3_work_4 : decode cX3_work 4 = .ok (.invokevirtual 216, 3) := by decide +kernel
theorem dX3_work_7 : decode cX3_work 7 = .ok (.ifCond .ne 13, 3) := by decide +kernel
theorem dX3_work_10 : decode cX3_work 10 = .ok (.new 37, 3) := by decide +kernel
theorem dX3_work_13 : decode cX3_work 13 = .ok (.dup, 1) := by decide +kernel
theorem dX3_work_14 : decode cX3_work 14 = .ok (.ldc 219, 2) := by decide +kernel
theorem dX3_work_16 : decode cX3_work 16 = .ok (.invokespecial 41, 3) := by decide +kernel
theorem dX3_work_19 : decode cX3_work 19 = .ok (.athrow, 1) := by decide +kernel
theorem dX3_work_20 : decode cX3_work 20 = .ok (.aload_n 0, 1) := by decide +kernel
theorem dX3_work_21 : decode cX3_work 21 = .ok (.getfield 29, 3) := by decide +kernel
theorem dX3_work_24 : decode cX3_work 24 = .ok (.invokevirtual 221, 3) := by decide +kernel
theorem dX3_work_27 : decode cX3_work 27 = .ok (.istore_n 1, 1) := by decide +kernel
theorem dX3_work_28 : decode cX3_work 28 = .ok (.iload_n 1, 1) := by decide +kernel
theorem dX3_work_29 : decode cX3_work 29 = .ok (.sipush 200, 3) := by decide +kernel
theorem dX3_work_32 : decode cX3_work 32 = .ok (.if_icmp .gt 18, 3) := by decide +kernel
theorem dX3_work_35 : decode cX3_work 35 = .ok (.aload_n 0, 1) := by decide +kernel
theorem dX3_work_36 : decode cX3_work 36 = .ok (.getfield 10, 3) := by decide +kernel
theorem dX3_work_39 : decode cX3_work 39 = .ok (.getfield 194, 3) := by decide +kernel
theorem dX3_work_42 : decode cX3_work 42 = .ok (.iload_n 1, 1) := by decide +kernel
theorem dX3_work_43 : decode cX3_work 43 = .ok (.iadd, 1) := by decide +kernel
theorem dX3_work_44 : decode cX3_work 44 = .ok (.sipush 1000, 3) := by decide +kernel
theorem dX3_work_47 : decode cX3_work 47 = .ok (.if_icmp .le 13, 3) := by decide +kernel
theorem dX3_work_50 : decode cX3_work 50 = .ok (.new 104, 3) := by decide +kernel
theorem dX3_work_53 : decode cX3_work 53 = .ok (.dup, 1) := by decide +kernel
theorem dX3_work_54 : decode cX3_work 54 = .ok (.ldc 224, 2) := by decide +kernel
theorem dX3_work_56 : decode cX3_work 56 = .ok (.invokespecial 108, 3) := by decide +kernel
theorem dX3_work_59 : decode cX3_work 59 = .ok (.athrow, 1) := by decide +kernel
theorem dX3_work_60 : decode cX3_work 60 = .ok (.aload_n 0, 1) := by decide +kernel
theorem dX3_work_61 : decode cX3_work 61 = .ok (.getfield 22, 3) := by decide +kernel
theorem dX3_work_64 : decode cX3_work 64 = .ok (.aload_n 0, 1) := by decide +kernel
theorem dX3_work_65 : decode cX3_work 65 = .ok (.getfield 10, 3) := by decide +kernel
theorem dX3_work_68 : decode cX3_work 68 = .ok (.invokevirtual 44, 3) := by decide +kernel
theorem dX3_work_71 : decode cX3_work 71 = .ok (.iconst 0, 1) := by decide +kernel
theorem dX3_work_72 : decode cX3_work 72 = .ok (.istore_n 2, 1) := by decide +kernel
theorem dX3_work_73 : decode cX3_work 73 = .ok (.iconst 0, 1) := by decide +kernel
theorem dX3_work_74 : decode cX3_work 74 = .ok (.istore_n 3, 1) := by decide +kernel
theorem dX3_work_75 : decode cX3_work 75 = .ok (.iload_n 3, 1) := by decide +kernel
theorem dX3_work_76 : decode cX3_work 76 = .ok (.aload_n 0, 1) := by decide +kernel
theorem dX3_work_77 : decode cX3_work 77 = .ok (.getfield 29, 3) := by decide +kernel
theorem dX3_work_80 : decode cX3_work 80 = .ok (.getfield 226, 3) := by decide +kernel
theorem dX3_work_83 : decode cX3_work 83 = .ok (.if_icmp .ge 71, 3) := by decide +kernel
theorem dX3_work_86 : decode cX3_work 86 = .ok (.aload_n 0, 1) := by decide +kernel
theorem dX3_work_87 : decode cX3_work 87 = .ok (.getfield 29, 3) := by decide +kernel
theorem dX3_work_90 : decode cX3_work 90 = .ok (.getfield 229, 3) := by decide +kernel
theorem dX3_work_93 : decode cX3_work 93 = .ok (.iload_n 3, 1) := by decide +kernel
theorem dX3_work_94 : decode cX3_work 94 = .ok (.invokestatic 74, 3) := by decide +kernel
theorem dX3_work_97 : decode cX3_work 97 = .ok (.istore 4, 2) := by decide +kernel
theorem dX3_work_99 : decode cX3_work 99 = .ok (.aload_n 0, 1) := by decide +kernel
theorem dX3_work_100 : decode cX3_work 100 = .ok (.getfield 29, 3) := by decide +kernel
theorem dX3_work_103 : decode cX3_work 103 = .ok (.getfield 232, 3) := by decide +kernel
theorem dX3_work_106 : decode cX3_work 106 = .ok (.iload_n 3, 1) := by decide +kernel
theorem dX3_work_107 : decode cX3_work 107 = .ok (.invokestatic 74, 3) := by decide +kernel
theorem dX3_work_110 : decode cX3_work 110 = .ok (.istore 5, 2) := by decide +kernel
theorem dX3_work_112 : decode cX3_work 112 = .ok (.iconst 0, 1) := by decide +kernel
theorem dX3_work_113 : decode cX3_work 113 = .ok (.istore 6, 2) := by decide +kernel
theorem dX3_work_115 : decode cX3_work 115 = .ok (.iload 6, 2) := by decide +kernel
theorem dX3_work_117 : decode cX3_work 117 = .ok (.iload 5, 2) := by decide +kernel
theorem dX3_work_119 : decode cX3_work 119 = .ok (.if_icmp .ge 29, 3) := by decide +kernel
theorem dX3_work_122 : decode cX3_work 122 = .ok (.aload_n 0, 1) := by decide +kernel
theorem dX3_work_123 : decode cX3_work 123 = .ok (.getfield 10, 3) := by decide +kernel
theorem dX3_work_126 : decode cX3_work 126 = .ok (.iload 4, 2) := by decide +kernel
theorem dX3_work_128 : decode cX3_work 128 = .ok (.invokevirtual 199, 3) := by decide +kernel
theorem dX3_work_131 : decode cX3_work 131 = .ok (.pop, 1) := by decide +kernel
theorem dX3_work_132 : decode cX3_work 132 = .ok (.iload_n 2, 1) := by decide +kernel
theorem dX3_work_133 : decode cX3_work 133 = .ok (.aload_n 0, 1) := by decide +kernel
theorem dX3_work_134 : decode cX3_work 134 = .ok (.getfield 10, 3) := by decide +kernel
theorem dX3_work_137 : decode cX3_work 137 = .ok (.invokevirtual 235, 3) := by decide +kernel
theorem dX3_work_140 : decode cX3_work 140 = .ok (.iadd, 1) := by decide +kernel
theorem dX3_work_141 : decode cX3_work 141 = .ok (.istore_n 2, 1) := by decide +kernel
theorem dX3_work_142 : decode cX3_work 142 = .ok (.iinc 6 1, 3) := by decide +kernel
theorem dX3_work_145 : decode cX3_work 145 = .ok (.goto (-30), 3) := by decide +kernel
theorem dX3_work_148 : decode cX3_work 148 = .ok (.iinc 3 1, 3) := by decide +kernel
theorem dX3_work_151 : decode cX3_work 151 = .ok (.goto (-76), 3) := by decide +kernel
theorem dX3_work_154 : decode cX3_work 154 = .ok (.aload_n 0, 1) := by decide +kernel
theorem dX3_work_155 : decode cX3_work 155 = .ok (.getfield 29, 3) := by decide +kernel
theorem dX3_work_158 : decode cX3_work 158 = .ok (.iconst 0, 1) := by decide +kernel
theorem dX3_work_159 : decode cX3_work 159 = .ok (.putfield 204, 3) := by decide +kernel
theorem dX3_work_162 : decode cX3_work 162 = .ok (.iload_n 2, 1) := by decide +kernel
theorem dX3_work_163 : decode cX3_work 163 = .ok (.ireturn, 1) := by decide +kernel
theorem dX3_undo_0 : decode cX3_undo 0 = .ok (.aload_n 0, 1) := by decide +kernel
theorem dX3_undo_1 : decode cX3_undo 1 = .ok (.getfield 22, 3) := by decide +kernel
theorem dX3_undo_4 : decode cX3_undo 4 = .ok (.getfield 238, 3) := by decide +kernel
theorem dX3_undo_7 : decode cX3_undo 7 = .ok (.ifCond .ne 13, 3) := by decide +kernel
theorem dX3_undo_10 : decode cX3_undo 10 = .ok (.new 104, 3) := by decide +kernel
theorem dX3_undo_13 : decode cX3_undo 13 = .ok (.dup, 1) := by decide +kernel
theorem dX3_undo_14 : decode cX3_undo 14 = .ok (.ldc 241, 2) := by decide +kernel
theorem dX3_undo_16 : decode cX3_undo 16 = .ok (.invokespecial 108, 3) := by decide +kernel
theorem dX3_undo_19 : decode cX3_undo 19 = .ok (.athrow, 1) := by decide +kernel
theorem dX3_undo_20 : decode cX3_undo 20 = .ok (.aload_n 0, 1) := by decide +kernel
theorem dX3_undo_21 : decode cX3_undo 21 = .ok (.getfield 22, 3) := by decide +kernel
theorem dX3_undo_24 : decode cX3_undo 24 = .ok (.aload_n 0, 1) := by decide +kernel
theorem dX3_undo_25 : decode cX3_undo 25 = .ok (.getfield 10, 3) := by decide +kernel
theorem dX3_undo_28 : decode cX3_undo 28 = .ok (.invokevirtual 243, 3) := by decide +kernel
theorem dX3_undo_31 : decode cX3_undo 31 = .ok (.aload_n 0, 1) := by decide +kernel
theorem dX3_undo_32 : decode cX3_undo 32 = .ok (.getfield 22, 3) := by decide +kernel
theorem dX3_undo_35 : decode cX3_undo 35 = .ok (.getfield 238, 3) := by decide +kernel
theorem dX3_undo_38 : decode cX3_undo 38 = .ok (.ireturn, 1) := by decide +kernel
theorem dX3_courseOf_0 : decode cX3_courseOf 0 = .ok (.aload_n 0, 1) := by decide +kernel
theorem dX3_courseOf_1 : decode cX3_courseOf 1 = .ok (.getfield 10, 3) := by decide +kernel
theorem dX3_courseOf_4 : decode cX3_courseOf 4 = .ok (.iload_n 1, 1) := by decide +kernel
theorem dX3_courseOf_5 : decode cX3_courseOf 5 = .ok (.invokevirtual 246, 3) := by decide +kernel
theorem dX3_courseOf_8 : decode cX3_courseOf 8 = .ok (.ifCond .ne 13, 3) := by decide +kernel
theorem dX3_courseOf_11 : decode cX3_courseOf 11 = .ok (.new 65, 3) := by decide +kernel
theorem dX3_courseOf_14 : decode cX3_courseOf 14 = .ok (.dup, 1) := by decide +kernel
theorem dX3_courseOf_15 : decode cX3_courseOf 15 = .ok (.ldc 249, 2) := by decide +kernel
theorem dX3_courseOf_17 : decode cX3_courseOf 17 = .ok (.invokespecial 69, 3) := by decide +kernel
theorem dX3_courseOf_20 : decode cX3_courseOf 20 = .ok (.athrow, 1) := by decide +kernel
theorem dX3_courseOf_21 : decode cX3_courseOf 21 = .ok (.iload_n 2, 1) := by decide +kernel
theorem dX3_courseOf_22 : decode cX3_courseOf 22 = .ok (.tableswitch 118 0 6 #[42, 54, 63, 72, 91, 100, 109], 42) := by decide +kernel
theorem dX3_courseOf_64 : decode cX3_courseOf 64 = .ok (.aload_n 0, 1) := by decide +kernel
theorem dX3_courseOf_65 : decode cX3_courseOf 65 = .ok (.getfield 10, 3) := by decide +kernel
theorem dX3_courseOf_68 : decode cX3_courseOf 68 = .ok (.getfield 251, 3) := by decide +kernel
theorem dX3_courseOf_71 : decode cX3_courseOf 71 = .ok (.iload_n 1, 1) := by decide +kernel
theorem dX3_courseOf_72 : decode cX3_courseOf 72 = .ok (.invokestatic 74, 3) := by decide +kernel
theorem dX3_courseOf_75 : decode cX3_courseOf 75 = .ok (.ireturn, 1) := by decide +kernel
theorem dX3_courseOf_76 : decode cX3_courseOf 76 = .ok (.aload_n 0, 1) := by decide +kernel
theorem dX3_courseOf_77 : decode cX3_courseOf 77 = .ok (.getfield 10, 3) := by decide +kernel
theorem dX3_courseOf_80 : decode cX3_courseOf 80 = .ok (.iload_n 1, 1) := by decide +kernel
theorem dX3_courseOf_81 : decode cX3_courseOf 81 = .ok (.invokevirtual 254, 3) := by decide +kernel
theorem dX3_courseOf_84 : decode cX3_courseOf 84 = .ok (.ireturn, 1) := by decide +kernel
theorem dX3_courseOf_85 : decode cX3_courseOf 85 = .ok (.aload_n 0, 1) := by decide +kernel
theorem dX3_courseOf_86 : decode cX3_courseOf 86 = .ok (.getfield 10, 3) := by decide +kernel
theorem dX3_courseOf_89 : decode cX3_courseOf 89 = .ok (.iload_n 1, 1) := by decide +kernel
theorem dX3_courseOf_90 : decode cX3_courseOf 90 = .ok (.invokevirtual 171, 3) := by decide +kernel
theorem dX3_courseOf_93 : decode cX3_courseOf 93 = .ok (.ireturn, 1) := by decide +kernel
theorem dX3_courseOf_94 : decode cX3_courseOf 94 = .ok (.aload_n 0, 1) := by decide +kernel
theorem dX3_courseOf_95 : decode cX3_courseOf 95 = .ok (.getfield 10, 3) := by decide +kernel
theorem dX3_courseOf_98 : decode cX3_courseOf 98 = .ok (.aload_n 0, 1) := by decide +kernel
theorem dX3_courseOf_99 : decode cX3_courseOf 99 = .ok (.getfield 10, 3) := by decide +kernel
theorem dX3_courseOf_102 : decode cX3_courseOf 102 = .ok (.getfield 251, 3) := by decide +kernel
theorem dX3_courseOf_105 : decode cX3_courseOf 105 = .ok (.iload_n 1, 1) := by decide +kernel
theorem dX3_courseOf_106 : decode cX3_courseOf 106 = .ok (.invokestatic 74, 3) := by decide +kernel
theorem dX3_courseOf_109 : decode cX3_courseOf 109 = .ok (.invokevirtual 257, 3) := by decide +kernel
theorem dX3_courseOf_112 : decode cX3_courseOf 112 = .ok (.ireturn, 1) := by decide +kernel
theorem dX3_courseOf_113 : decode cX3_courseOf 113 = .ok (.aload_n 0, 1) := by decide +kernel
theorem dX3_courseOf_114 : decode cX3_courseOf 114 = .ok (.getfield 10, 3) := by decide +kernel
theorem dX3_courseOf_117 : decode cX3_courseOf 117 = .ok (.iload_n 1, 1) := by decide +kernel
theorem dX3_courseOf_118 : decode cX3_courseOf 118 = .ok (.invokevirtual 260, 3) := by decide +kernel
theorem dX3_courseOf_121 : decode cX3_courseOf 121 = .ok (.ireturn, 1) := by decide +kernel
theorem dX3_courseOf_122 : decode cX3_courseOf 122 = .ok (.aload_n 0, 1) := by decide +kernel
theorem dX3_courseOf_123 : decode cX3_courseOf 123 = .ok (.getfield 10, 3) := by decide +kernel
theorem dX3_courseOf_126 : decode cX3_courseOf 126 = .ok (.iload_n 1, 1) := by decide +kernel
theorem dX3_courseOf_127 : decode cX3_courseOf 127 = .ok (.invokevirtual 164, 3) := by decide +kernel
theorem dX3_courseOf_130 : decode cX3_courseOf 130 = .ok (.ireturn, 1) := by decide +kernel
theorem dX3_courseOf_131 : decode cX3_courseOf 131 = .ok (.aload_n 0, 1) := by decide +kernel
theorem dX3_courseOf_132 : decode cX3_courseOf 132 = .ok (.getfield 10, 3) := by decide +kernel
theorem dX3_courseOf_135 : decode cX3_courseOf 135 = .ok (.iload_n 1, 1) := by decide +kernel
theorem dX3_courseOf_136 : decode cX3_courseOf 136 = .ok (.invokevirtual 263, 3) := by decide +kernel
theorem dX3_courseOf_139 : decode cX3_courseOf 139 = .ok (.ireturn, 1) := by decide +kernel
theorem dX3_courseOf_140 : decode cX3_courseOf 140 = .ok (.new 37, 3) := by decide +kernel
theorem dX3_courseOf_143 : decode cX3_courseOf 143 = .ok (.dup, 1) := by decide +kernel
theorem dX3_courseOf_144 : decode cX3_courseOf 144 = .ok (.ldc_w 266, 3) := by decide +kernel
theorem dX3_courseOf_147 : decode cX3_courseOf 147 = .ok (.invokespecial 41, 3) := by decide +kernel
theorem dX3_courseOf_150 : decode cX3_courseOf 150 = .ok (.athrow, 1) := by decide +kernel
theorem dX3_lies_0 : decode cX3_lies 0 = .ok (.aload_n 0, 1) := by decide +kernel
theorem dX3_lies_1 : decode cX3_lies 1 = .ok (.getfield 10, 3) := by decide +kernel
theorem dX3_lies_4 : decode cX3_lies 4 = .ok (.iload_n 1, 1) := by decide +kernel
theorem dX3_lies_5 : decode cX3_lies 5 = .ok (.iload_n 2, 1) := by decide +kernel
theorem dX3_lies_6 : decode cX3_lies 6 = .ok (.invokevirtual 174, 3) := by decide +kernel
theorem dX3_lies_9 : decode cX3_lies 9 = .ok (.ifCond .ne 13, 3) := by decide +kernel
theorem dX3_lies_12 : decode cX3_lies 12 = .ok (.new 65, 3) := by decide +kernel
theorem dX3_lies_15 : decode cX3_lies 15 = .ok (.dup, 1) := by decide +kernel
theorem dX3_lies_16 : decode cX3_lies 16 = .ok (.ldc 178, 2) := by decide +kernel
theorem dX3_lies_18 : decode cX3_lies 18 = .ok (.invokespecial 69, 3) := by decide +kernel
theorem dX3_lies_21 : decode cX3_lies 21 = .ok (.athrow, 1) := by decide +kernel
theorem dX3_lies_22 : decode cX3_lies 22 = .ok (.aload_n 0, 1) := by decide +kernel
theorem dX3_lies_23 : decode cX3_lies 23 = .ok (.getfield 10, 3) := by decide +kernel
theorem dX3_lies_26 : decode cX3_lies 26 = .ok (.iload_n 1, 1) := by decide +kernel
theorem dX3_lies_27 : decode cX3_lies 27 = .ok (.iload_n 2, 1) := by decide +kernel
theorem dX3_lies_28 : decode cX3_lies 28 = .ok (.invokevirtual 268, 3) := by decide +kernel
theorem dX3_lies_31 : decode cX3_lies 31 = .ok (.ireturn, 1) := by decide +kernel
theorem dX3_slates_0 : decode cX3_slates 0 = .ok (.iload_n 1, 1) := by decide +kernel
theorem dX3_slates_1 : decode cX3_slates 1 = .ok (.invokestatic 91, 3) := by decide +kernel
theorem dX3_slates_4 : decode cX3_slates 4 = .ok (.ifCond .ne 13, 3) := by decide +kernel
theorem dX3_slates_7 : decode cX3_slates 7 = .ok (.new 37, 3) := by decide +kernel
theorem dX3_slates_10 : decode cX3_slates 10 = .ok (.dup, 1) := by decide +kernel
theorem dX3_slates_11 : decode cX3_slates 11 = .ok (.ldc 136, 2) := by decide +kernel
theorem dX3_slates_13 : decode cX3_slates 13 = .ok (.invokespecial 41, 3) := by decide +kernel
theorem dX3_slates_16 : decode cX3_slates 16 = .ok (.athrow, 1) := by decide +kernel
theorem dX3_slates_17 : decode cX3_slates 17 = .ok (.iload_n 2, 1) := by decide +kernel
theorem dX3_slates_18 : decode cX3_slates 18 = .ok (.tableswitch 84 0 4 #[34, 46, 58, 67, 79], 34) := by decide +kernel
theorem dX3_slates_52 : decode cX3_slates 52 = .ok (.aload_n 0, 1) := by decide +kernel
theorem dX3_slates_53 : decode cX3_slates 53 = .ok (.getfield 10, 3) := by decide +kernel
theorem dX3_slates_56 : decode cX3_slates 56 = .ok (.getfield 117, 3) := by decide +kernel
theorem dX3_slates_59 : decode cX3_slates 59 = .ok (.iload_n 1, 1) := by decide +kernel
theorem dX3_slates_60 : decode cX3_slates 60 = .ok (.invokestatic 74, 3) := by decide +kernel
theorem dX3_slates_63 : decode cX3_slates 63 = .ok (.ireturn, 1) := by decide +kernel
theorem dX3_slates_64 : decode cX3_slates 64 = .ok (.aload_n 0, 1) := by decide +kernel
theorem dX3_slates_65 : decode cX3_slates 65 = .ok (.getfield 10, 3) := by decide +kernel
theorem dX3_slates_68 : decode cX3_slates 68 = .ok (.getfield 120, 3) := by decide +kernel
theorem dX3_slates_71 : decode cX3_slates 71 = .ok (.iload_n 1, 1) := by decide +kernel
theorem dX3_slates_72 : decode cX3_slates 72 = .ok (.invokestatic 74, 3) := by decide +kernel
theorem dX3_slates_75 : decode cX3_slates 75 = .ok (.ireturn, 1) := by decide +kernel
theorem dX3_slates_76 : decode cX3_slates 76 = .ok (.aload_n 0, 1) := by decide +kernel
theorem dX3_slates_77 : decode cX3_slates 77 = .ok (.getfield 10, 3) := by decide +kernel
theorem dX3_slates_80 : decode cX3_slates 80 = .ok (.iload_n 1, 1) := by decide +kernel
theorem dX3_slates_81 : decode cX3_slates 81 = .ok (.invokevirtual 271, 3) := by decide +kernel
theorem dX3_slates_84 : decode cX3_slates 84 = .ok (.ireturn, 1) := by decide +kernel
theorem dX3_slates_85 : decode cX3_slates 85 = .ok (.aload_n 0, 1) := by decide +kernel
theorem dX3_slates_86 : decode cX3_slates 86 = .ok (.getfield 10, 3) := by decide +kernel
theorem dX3_slates_89 : decode cX3_slates 89 = .ok (.getfield 97, 3) := by decide +kernel
theorem dX3_slates_92 : decode cX3_slates 92 = .ok (.iload_n 1, 1) := by decide +kernel
theorem dX3_slates_93 : decode cX3_slates 93 = .ok (.invokestatic 74, 3) := by decide +kernel
theorem dX3_slates_96 : decode cX3_slates 96 = .ok (.ireturn, 1) := by decide +kernel
theorem dX3_slates_97 : decode cX3_slates 97 = .ok (.iload_n 1, 1) := by decide +kernel
theorem dX3_slates_98 : decode cX3_slates 98 = .ok (.invokestatic 126, 3) := by decide +kernel
theorem dX3_slates_101 : decode cX3_slates 101 = .ok (.ireturn, 1) := by decide +kernel
theorem dX3_slates_102 : decode cX3_slates 102 = .ok (.new 37, 3) := by decide +kernel
theorem dX3_slates_105 : decode cX3_slates 105 = .ok (.dup, 1) := by decide +kernel
theorem dX3_slates_106 : decode cX3_slates 106 = .ok (.ldc_w 274, 3) := by decide +kernel
theorem dX3_slates_109 : decode cX3_slates 109 = .ok (.invokespecial 41, 3) := by decide +kernel
theorem dX3_slates_112 : decode cX3_slates 112 = .ok (.athrow, 1) := by decide +kernel
theorem dX3_count_0 : decode cX3_count 0 = .ok (.iload_n 1, 1) := by decide +kernel
theorem dX3_count_1 : decode cX3_count 1 = .ok (.tableswitch 277 0 18 #[91, 99, 107, 115, 132, 140, 148, 164, 172, 180, 188, 204, 215, 226, 237, 245, 253, 261, 269], 91) := by decide +kernel
theorem dX3_count_92 : decode cX3_count 92 = .ok (.aload_n 0, 1) := by decide +kernel
theorem dX3_count_93 : decode cX3_count 93 = .ok (.getfield 10, 3) := by decide +kernel
theorem dX3_count_96 : decode cX3_count 96 = .ok (.getfield 59, 3) := by decide +kernel
theorem dX3_count_99 : decode cX3_count 99 = .ok (.ireturn, 1) := by decide +kernel
theorem dX3_count_100 : decode cX3_count 100 = .ok (.aload_n 0, 1) := by decide +kernel
theorem dX3_count_101 : decode cX3_count 101 = .ok (.getfield 10, 3) := by decide +kernel
theorem dX3_count_104 : decode cX3_count 104 = .ok (.getfield 62, 3) := by decide +kernel
theorem dX3_count_107 : decode cX3_count 107 = .ok (.ireturn, 1) := by decide +kernel
theorem dX3_count_108 : decode cX3_count 108 = .ok (.aload_n 0, 1) := by decide +kernel
theorem dX3_count_109 : decode cX3_count 109 = .ok (.getfield 10, 3) := by decide +kernel
theorem dX3_count_112 : decode cX3_count 112 = .ok (.getfield 56, 3) := by decide +kernel
theorem dX3_count_115 : decode cX3_count 115 = .ok (.ireturn, 1) := by decide +kernel
theorem dX3_count_116 : decode cX3_count 116 = .ok (.aload_n 0, 1) := by decide +kernel
theorem dX3_count_117 : decode cX3_count 117 = .ok (.getfield 10, 3) := by decide +kernel
theorem dX3_count_120 : decode cX3_count 120 = .ok (.aload_n 0, 1) := by decide +kernel
theorem dX3_count_121 : decode cX3_count 121 = .ok (.getfield 10, 3) := by decide +kernel
theorem dX3_count_124 : decode cX3_count 124 = .ok (.getfield 56, 3) := by decide +kernel
theorem dX3_count_127 : decode cX3_count 127 = .ok (.iconst 1, 1) := by decide +kernel
theorem dX3_count_128 : decode cX3_count 128 = .ok (.isub, 1) := by decide +kernel
theorem dX3_count_129 : decode cX3_count 129 = .ok (.invokevirtual 260, 3) := by decide +kernel
theorem dX3_count_132 : decode cX3_count 132 = .ok (.ireturn, 1) := by decide +kernel
theorem dX3_count_133 : decode cX3_count 133 = .ok (.aload_n 0, 1) := by decide +kernel
theorem dX3_count_134 : decode cX3_count 134 = .ok (.getfield 10, 3) := by decide +kernel
theorem dX3_count_137 : decode cX3_count 137 = .ok (.invokevirtual 48, 3) := by decide +kernel
theorem dX3_count_140 : decode cX3_count 140 = .ok (.ireturn, 1) := by decide +kernel
theorem dX3_count_141 : decode cX3_count 141 = .ok (.aload_n 0, 1) := by decide +kernel
theorem dX3_count_142 : decode cX3_count 142 = .ok (.getfield 10, 3) := by decide +kernel
theorem dX3_count_145 : decode cX3_count 145 = .ok (.invokevirtual 276, 3) := by decide +kernel
theorem dX3_count_148 : decode cX3_count 148 = .ok (.ireturn, 1) := by decide +kernel
theorem dX3_count_149 : decode cX3_count 149 = .ok (.aload_n 0, 1) := by decide +kernel
theorem dX3_count_150 : decode cX3_count 150 = .ok (.getfield 10, 3) := by decide +kernel
theorem dX3_count_153 : decode cX3_count 153 = .ok (.invokevirtual 279, 3) := by decide +kernel
theorem dX3_count_156 : decode cX3_count 156 = .ok (.ifCond .eq 7, 3) := by decide +kernel
theorem dX3_count_159 : decode cX3_count 159 = .ok (.iconst 1, 1) := by decide +kernel
theorem dX3_count_160 : decode cX3_count 160 = .ok (.goto 4, 3) := by decide +kernel
theorem dX3_count_163 : decode cX3_count 163 = .ok (.iconst 0, 1) := by decide +kernel
theorem dX3_count_164 : decode cX3_count 164 = .ok (.ireturn, 1) := by decide +kernel
theorem dX3_count_165 : decode cX3_count 165 = .ok (.aload_n 0, 1) := by decide +kernel
theorem dX3_count_166 : decode cX3_count 166 = .ok (.getfield 10, 3) := by decide +kernel
theorem dX3_count_169 : decode cX3_count 169 = .ok (.getfield 194, 3) := by decide +kernel
theorem dX3_count_172 : decode cX3_count 172 = .ok (.ireturn, 1) := by decide +kernel
theorem dX3_count_173 : decode cX3_count 173 = .ok (.aload_n 0, 1) := by decide +kernel
theorem dX3_count_174 : decode cX3_count 174 = .ok (.getfield 10, 3) := by decide +kernel
theorem dX3_count_177 : decode cX3_count 177 = .ok (.getfield 185, 3) := by decide +kernel
theorem dX3_count_180 : decode cX3_count 180 = .ok (.ireturn, 1) := by decide +kernel
theorem dX3_count_181 : decode cX3_count 181 = .ok (.aload_n 0, 1) := by decide +kernel
theorem dX3_count_182 : decode cX3_count 182 = .ok (.getfield 10, 3) := by decide +kernel
theorem dX3_count_185 : decode cX3_count 185 = .ok (.getfield 282, 3) := by decide +kernel
theorem dX3_count_188 : decode cX3_count 188 = .ok (.ireturn, 1) := by decide +kernel
theorem dX3_count_189 : decode cX3_count 189 = .ok (.aload_n 0, 1) := by decide +kernel
theorem dX3_count_190 : decode cX3_count 190 = .ok (.getfield 10, 3) := by decide +kernel
theorem dX3_count_193 : decode cX3_count 193 = .ok (.getfield 188, 3) := by decide +kernel
theorem dX3_count_196 : decode cX3_count 196 = .ok (.ifCond .eq 7, 3) := by decide +kernel
theorem dX3_count_199 : decode cX3_count 199 = .ok (.iconst 1, 1) := by decide +kernel
theorem dX3_count_200 : decode cX3_count 200 = .ok (.goto 4, 3) := by decide +kernel
theorem dX3_count_203 : decode cX3_count 203 = .ok (.iconst 0, 1) := by decide +kernel
theorem dX3_count_204 : decode cX3_count 204 = .ok (.ireturn, 1) := by decide +kernel
theorem dX3_count_205 : decode cX3_count 205 = .ok (.aload_n 0, 1) := by decide +kernel
theorem dX3_count_206 : decode cX3_count 206 = .ok (.getfield 10, 3) := by decide +kernel
theorem dX3_count_209 : decode cX3_count 209 = .ok (.getfield 97, 3) := by decide +kernel
theorem dX3_count_212 : decode cX3_count 212 = .ok (.invokestatic 100, 3) := by decide +kernel
theorem dX3_count_215 : decode cX3_count 215 = .ok (.ireturn, 1) := by decide +kernel
theorem dX3_count_216 : decode cX3_count 216 = .ok (.aload_n 0, 1) := by decide +kernel
theorem dX3_count_217 : decode cX3_count 217 = .ok (.getfield 10, 3) := by decide +kernel
theorem dX3_count_220 : decode cX3_count 220 = .ok (.getfield 117, 3) := by decide +kernel
theorem dX3_count_223 : decode cX3_count 223 = .ok (.invokestatic 100, 3) := by decide +kernel
theorem dX3_count_226 : decode cX3_count 226 = .ok (.ireturn, 1) := by decide +kernel
theorem dX3_count_227 : decode cX3_count 227 = .ok (.aload_n 0, 1) := by decide +kernel
theorem dX3_count_228 : decode cX3_count 228 = .ok (.getfield 10, 3) := by decide +kernel
theorem dX3_count_231 : decode cX3_count 231 = .ok (.getfield 120, 3) := by decide +kernel
theorem dX3_count_234 : decode cX3_count 234 = .ok (.invokestatic 100, 3) := by decide +kernel
theorem dX3_count_237 : decode cX3_count 237 = .ok (.ireturn, 1) := by decide +kernel
theorem dX3_count_238 : decode cX3_count 238 = .ok (.aload_n 0, 1) := by decide +kernel
theorem dX3_count_239 : decode cX3_count 239 = .ok (.getfield 10, 3) := by decide +kernel
theorem dX3_count_242 : decode cX3_count 242 = .ok (.getfield 133, 3) := by decide +kernel
theorem dX3_count_245 : decode cX3_count 245 = .ok (.ireturn, 1) := by decide +kernel
theorem dX3_count_246 : decode cX3_count 246 = .ok (.aload_n 0, 1) := by decide +kernel
theorem dX3_count_247 : decode cX3_count 247 = .ok (.getfield 10, 3) := by decide +kernel
theorem dX3_count_250 : decode cX3_count 250 = .ok (.getfield 138, 3) := by decide +kernel
theorem dX3_count_253 : decode cX3_count 253 = .ok (.ireturn, 1) := by decide +kernel
theorem dX3_count_254 : decode cX3_count 254 = .ok (.aload_n 0, 1) := by decide +kernel
theorem dX3_count_255 : decode cX3_count 255 = .ok (.getfield 10, 3) := by decide +kernel
theorem dX3_count_258 : decode cX3_count 258 = .ok (.getfield 52, 3) := by decide +kernel
theorem dX3_count_261 : decode cX3_count 261 = .ok (.ireturn, 1) := by decide +kernel
theorem dX3_count_262 : decode cX3_count 262 = .ok (.aload_n 0, 1) := by decide +kernel
theorem dX3_count_263 : decode cX3_count 263 = .ok (.getfield 10, 3) := by decide +kernel
theorem dX3_count_266 : decode cX3_count 266 = .ok (.getfield 123, 3) := by decide +kernel
theorem dX3_count_269 : decode cX3_count 269 = .ok (.ireturn, 1) := by decide +kernel
theorem dX3_count_270 : decode cX3_count 270 = .ok (.aload_n 0, 1) := by decide +kernel
theorem dX3_count_271 : decode cX3_count 271 = .ok (.getfield 22, 3) := by decide +kernel
theorem dX3_count_274 : decode cX3_count 274 = .ok (.getfield 238, 3) := by decide +kernel
theorem dX3_count_277 : decode cX3_count 277 = .ok (.ireturn, 1) := by decide +kernel
theorem dX3_count_278 : decode cX3_count 278 = .ok (.new 37, 3) := by decide +kernel
theorem dX3_count_281 : decode cX3_count 281 = .ok (.dup, 1) := by decide +kernel
theorem dX3_count_282 : decode cX3_count 282 = .ok (.ldc_w 274, 3) := by decide +kernel
theorem dX3_count_285 : decode cX3_count 285 = .ok (.invokespecial 41, 3) := by decide +kernel
theorem dX3_count_288 : decode cX3_count 288 = .ok (.athrow, 1) := by decide +kernel
theorem dX3_setting_0 : decode cX3_setting 0 = .ok (.iload_n 1, 1) := by decide +kernel
theorem dX3_setting_1 : decode cX3_setting 1 = .ok (.iconst 0, 1) := by decide +kernel
theorem dX3_setting_2 : decode cX3_setting 2 = .ok (.iconst 2, 1) := by decide +kernel
theorem dX3_setting_3 : decode cX3_setting 3 = .ok (.invokestatic 33, 3) := by decide +kernel
theorem dX3_setting_6 : decode cX3_setting 6 = .ok (.ifCond .ne 13, 3) := by decide +kernel
theorem dX3_setting_9 : decode cX3_setting 9 = .ok (.new 65, 3) := by decide +kernel
theorem dX3_setting_12 : decode cX3_setting 12 = .ok (.dup, 1) := by decide +kernel
theorem dX3_setting_13 : decode cX3_setting 13 = .ok (.ldc 67, 2) := by decide +kernel
theorem dX3_setting_15 : decode cX3_setting 15 = .ok (.invokespecial 69, 3) := by decide +kernel
theorem dX3_setting_18 : decode cX3_setting 18 = .ok (.athrow, 1) := by decide +kernel
theorem dX3_setting_19 : decode cX3_setting 19 = .ok (.aload_n 0, 1) := by decide +kernel
theorem dX3_setting_20 : decode cX3_setting 20 = .ok (.getfield 10, 3) := by decide +kernel
theorem dX3_setting_23 : decode cX3_setting 23 = .ok (.iload_n 1, 1) := by decide +kernel
theorem dX3_setting_24 : decode cX3_setting 24 = .ok (.invokevirtual 83, 3) := by decide +kernel
theorem dX3_setting_27 : decode cX3_setting 27 = .ok (.ireturn, 1) := by decide +kernel
theorem dX3_toTop_0 : decode cX3_toTop 0 = .ok (.iload_n 1, 1) := by decide +kernel
theorem dX3_toTop_1 : decode cX3_toTop 1 = .ok (.invokestatic 91, 3) := by decide +kernel
theorem dX3_toTop_4 : decode cX3_toTop 4 = .ok (.ifCond .eq 12, 3) := by decide +kernel
theorem dX3_toTop_7 : decode cX3_toTop 7 = .ok (.iload_n 2, 1) := by decide +kernel
theorem dX3_toTop_8 : decode cX3_toTop 8 = .ok (.iconst 0, 1) := by decide +kernel
theorem dX3_toTop_9 : decode cX3_toTop 9 = .ok (.iconst 1, 1) := by decide +kernel
theorem dX3_toTop_10 : decode cX3_toTop 10 = .ok (.invokestatic 33, 3) := by decide +kernel
theorem dX3_toTop_13 : decode cX3_toTop 13 = .ok (.ifCond .ne 14, 3) := by decide +kernel
theorem dX3_toTop_16 : decode cX3_toTop 16 = .ok (.new 37, 3) := by decide +kernel
theorem dX3_toTop_19 : decode cX3_toTop 19 = .ok (.dup, 1) := by decide +kernel
theorem dX3_toTop_20 : decode cX3_toTop 20 = .ok (.ldc_w 285, 3) := by decide +kernel
theorem dX3_toTop_23 : decode cX3_toTop 23 = .ok (.invokespecial 41, 3) := by decide +kernel
theorem dX3_toTop_26 : decode cX3_toTop 26 = .ok (.athrow, 1) := by decide +kernel
theorem dX3_toTop_27 : decode cX3_toTop 27 = .ok (.iload_n 1, 1) := by decide +kernel
theorem dX3_toTop_28 : decode cX3_toTop 28 = .ok (.aload_n 0, 1) := by decide +kernel
theorem dX3_toTop_29 : decode cX3_toTop 29 = .ok (.getfield 10, 3) := by decide +kernel
theorem dX3_toTop_32 : decode cX3_toTop 32 = .ok (.invokevirtual 148, 3) := by decide +kernel
theorem dX3_toTop_35 : decode cX3_toTop 35 = .ok (.if_icmp .le 5, 3) := by decide +kernel
theorem dX3_toTop_38 : decode cX3_toTop 38 = .ok (.iconst (-1), 1) := by decide +kernel
theorem dX3_toTop_39 : decode cX3_toTop 39 = .ok (.ireturn, 1) := by decide +kernel
theorem dX3_toTop_40 : decode cX3_toTop 40 = .ok (.aload_n 0, 1) := by decide +kernel
theorem dX3_toTop_41 : decode cX3_toTop 41 = .ok (.getfield 10, 3) := by decide +kernel
theorem dX3_toTop_44 : decode cX3_toTop 44 = .ok (.iload_n 1, 1) := by decide +kernel
theorem dX3_toTop_45 : decode cX3_toTop 45 = .ok (.invokevirtual 287, 3) := by decide +kernel
theorem dX3_toTop_48 : decode cX3_toTop 48 = .ok (.istore_n 3, 1) := by decide +kernel
theorem dX3_toTop_49 : decode cX3_toTop 49 = .ok (.iload_n 2, 1) := by decide +kernel
theorem dX3_toTop_50 : decode cX3_toTop 50 = .ok (.ifCond .ne 7, 3) := by decide +kernel
theorem dX3_toTop_53 : decode cX3_toTop 53 = .ok (.iload_n 3, 1) := by decide +kernel
theorem dX3_toTop_54 : decode cX3_toTop 54 = .ok (.goto 11, 3) := by decide +kernel
theorem dX3_toTop_57 : decode cX3_toTop 57 = .ok (.aload_n 0, 1) := by decide +kernel
theorem dX3_toTop_58 : decode cX3_toTop 58 = .ok (.getfield 10, 3) := by decide +kernel
theorem dX3_toTop_61 : decode cX3_toTop 61 = .ok (.iload_n 3, 1) := by decide +kernel
theorem dX3_toTop_62 : decode cX3_toTop 62 = .ok (.invokevirtual 290, 3) := by decide +kernel
theorem dX3_toTop_65 : decode cX3_toTop 65 = .ok (.ireturn, 1) := by decide +kernel
theorem dX3_reach_0 : decode cX3_reach 0 = .ok (.iload_n 1, 1) := by decide +kernel
theorem dX3_reach_1 : decode cX3_reach 1 = .ok (.iconst 0, 1) := by decide +kernel
theorem dX3_reach_2 : decode cX3_reach 2 = .ok (.iconst 3, 1) := by decide +kernel
theorem dX3_reach_3 : decode cX3_reach 3 = .ok (.invokestatic 33, 3) := by decide +kernel
theorem dX3_reach_6 : decode cX3_reach 6 = .ok (.ifCond .ne 14, 3) := by decide +kernel
theorem dX3_reach_9 : decode cX3_reach 9 = .ok (.new 37, 3) := by decide +kernel
theorem dX3_reach_12 : decode cX3_reach 12 = .ok (.dup, 1) := by decide +kernel
theorem dX3_reach_13 : decode cX3_reach 13 = .ok (.ldc_w 274, 3) := by decide +kernel
theorem dX3_reach_16 : decode cX3_reach 16 = .ok (.invokespecial 41, 3) := by decide +kernel
theorem dX3_reach_19 : decode cX3_reach 19 = .ok (.athrow, 1) := by decide +kernel
theorem dX3_reach_20 : decode cX3_reach 20 = .ok (.aload_n 0, 1) := by decide +kernel
theorem dX3_reach_21 : decode cX3_reach 21 = .ok (.getfield 16, 3) := by decide +kernel
theorem dX3_reach_24 : decode cX3_reach 24 = .ok (.aload_n 0, 1) := by decide +kernel
theorem dX3_reach_25 : decode cX3_reach 25 = .ok (.getfield 10, 3) := by decide +kernel
theorem dX3_reach_28 : decode cX3_reach 28 = .ok (.invokevirtual 293, 3) := by decide +kernel
theorem dX3_reach_31 : decode cX3_reach 31 = .ok (.aload_n 0, 1) := by decide +kernel
theorem dX3_reach_32 : decode cX3_reach 32 = .ok (.getfield 16, 3) := by decide +kernel
theorem dX3_reach_35 : decode cX3_reach 35 = .ok (.invokevirtual 296, 3) := by decide +kernel
theorem dX3_reach_38 : decode cX3_reach 38 = .ok (.aload_n 0, 1) := by decide +kernel
theorem dX3_reach_39 : decode cX3_reach 39 = .ok (.getfield 16, 3) := by decide +kernel
theorem dX3_reach_42 : decode cX3_reach 42 = .ok (.getfield 56, 3) := by decide +kernel
theorem dX3_reach_45 : decode cX3_reach 45 = .ok (.aload_n 0, 1) := by decide +kernel
theorem dX3_reach_46 : decode cX3_reach 46 = .ok (.getfield 10, 3) := by decide +kernel
theorem dX3_reach_49 : decode cX3_reach 49 = .ok (.getfield 56, 3) := by decide +kernel
theorem dX3_reach_52 : decode cX3_reach 52 = .ok (.isub, 1) := by decide +kernel
theorem dX3_reach_53 : decode cX3_reach 53 = .ok (.istore_n 2, 1) := by decide +kernel
theorem dX3_reach_54 : decode cX3_reach 54 = .ok (.iload_n 1, 1) := by decide +kernel
theorem dX3_reach_55 : decode cX3_reach 55 = .ok (.tableswitch 55 0 2 #[25, 27, 44], 25) := by decide +kernel
theorem dX3_reach_80 : decode cX3_reach 80 = .ok (.iload_n 2, 1) := by decide +kernel
theorem dX3_reach_81 : decode cX3_reach 81 = .ok (.ireturn, 1) := by decide +kernel
theorem dX3_reach_82 : decode cX3_reach 82 = .ok (.aload_n 0, 1) := by decide +kernel
theorem dX3_reach_83 : decode cX3_reach 83 = .ok (.getfield 16, 3) := by decide +kernel
theorem dX3_reach_86 : decode cX3_reach 86 = .ok (.aload_n 0, 1) := by decide +kernel
theorem dX3_reach_87 : decode cX3_reach 87 = .ok (.getfield 16, 3) := by decide +kernel
theorem dX3_reach_90 : decode cX3_reach 90 = .ok (.getfield 56, 3) := by decide +kernel
theorem dX3_reach_93 : decode cX3_reach 93 = .ok (.iconst 1, 1) := by decide +kernel
theorem dX3_reach_94 : decode cX3_reach 94 = .ok (.isub, 1) := by decide +kernel
theorem dX3_reach_95 : decode cX3_reach 95 = .ok (.invokevirtual 260, 3) := by decide +kernel
theorem dX3_reach_98 : decode cX3_reach 98 = .ok (.ireturn, 1) := by decide +kernel
theorem dX3_reach_99 : decode cX3_reach 99 = .ok (.aload_n 0, 1) := by decide +kernel
theorem dX3_reach_100 : decode cX3_reach 100 = .ok (.getfield 16, 3) := by decide +kernel
theorem dX3_reach_103 : decode cX3_reach 103 = .ok (.getfield 117, 3) := by decide +kernel
theorem dX3_reach_106 : decode cX3_reach 106 = .ok (.invokestatic 100, 3) := by decide +kernel
theorem dX3_reach_109 : decode cX3_reach 109 = .ok (.ireturn, 1) := by decide +kernel
theorem dX3_reach_110 : decode cX3_reach 110 = .ok (.iload_n 2, 1) := by decide +kernel
theorem dX3_reach_111 : decode cX3_reach 111 = .ok (.ifCond .ne 7, 3) := by decide +kernel
theorem dX3_reach_114 : decode cX3_reach 114 = .ok (.iconst (-1), 1) := by decide +kernel
theorem dX3_reach_115 : decode cX3_reach 115 = .ok (.goto 10, 3) := by decide +kernel
theorem dX3_reach_118 : decode cX3_reach 118 = .ok (.aload_n 0, 1) := by decide +kernel
theorem dX3_reach_119 : decode cX3_reach 119 = .ok (.getfield 16, 3) := by decide +kernel
theorem dX3_reach_122 : decode cX3_reach 122 = .ok (.invokevirtual 148, 3) := by decide +kernel
theorem dX3_reach_125 : decode cX3_reach 125 = .ok (.ireturn, 1) := by decide +kernel
theorem dX3_dryDays_0 : decode cX3_dryDays 0 = .ok (.aload_n 0, 1) := by decide +kernel
theorem dX3_dryDays_1 : decode cX3_dryDays 1 = .ok (.getfield 10, 3) := by decide +kernel
theorem dX3_dryDays_4 : decode cX3_dryDays 4 = .ok (.invokevirtual 279, 3) := by decide +kernel
theorem dX3_dryDays_7 : decode cX3_dryDays 7 = .ok (.ifCond .eq 5, 3) := by decide +kernel
theorem dX3_dryDays_10 : decode cX3_dryDays 10 = .ok (.iconst 0, 1) := by decide +kernel
theorem dX3_dryDays_11 : decode cX3_dryDays 11 = .ok (.ireturn, 1) := by decide +kernel
theorem dX3_dryDays_12 : decode cX3_dryDays 12 = .ok (.aload_n 0, 1) := by decide +kernel
theorem dX3_dryDays_13 : decode cX3_dryDays 13 = .ok (.getfield 16, 3) := by decide +kernel
theorem dX3_dryDays_16 : decode cX3_dryDays 16 = .ok (.aload_n 0, 1) := by decide +kernel
theorem dX3_dryDays_17 : decode cX3_dryDays 17 = .ok (.getfield 10, 3) := by decide +kernel
theorem dX3_dryDays_20 : decode cX3_dryDays 20 = .ok (.invokevirtual 293, 3) := by decide +kernel
theorem dX3_dryDays_23 : decode cX3_dryDays 23 = .ok (.aload_n 0, 1) := by decide +kernel
theorem dX3_dryDays_24 : decode cX3_dryDays 24 = .ok (.getfield 16, 3) := by decide +kernel
theorem dX3_dryDays_27 : decode cX3_dryDays 27 = .ok (.iconst 0, 1) := by decide +kernel
theorem dX3_dryDays_28 : decode cX3_dryDays 28 = .ok (.putfield 188, 3) := by decide +kernel
theorem dX3_dryDays_31 : decode cX3_dryDays 31 = .ok (.iconst 1, 1) := by decide +kernel
theorem dX3_dryDays_32 : decode cX3_dryDays 32 = .ok (.istore_n 1, 1) := by decide +kernel
theorem dX3_dryDays_33 : decode cX3_dryDays 33 = .ok (.iload_n 1, 1) := by decide +kernel
theorem dX3_dryDays_34 : decode cX3_dryDays 34 = .ok (.sipush 200, 3) := by decide +kernel
theorem dX3_dryDays_37 : decode cX3_dryDays 37 = .ok (.if_icmp .gt 54, 3) := by decide +kernel
theorem dX3_dryDays_40 : decode cX3_dryDays 40 = .ok (.aload_n 0, 1) := by decide +kernel
theorem dX3_dryDays_41 : decode cX3_dryDays 41 = .ok (.getfield 16, 3) := by decide +kernel
theorem dX3_dryDays_44 : decode cX3_dryDays 44 = .ok (.iconst 0, 1) := by decide +kernel
theorem dX3_dryDays_45 : decode cX3_dryDays 45 = .ok (.invokevirtual 199, 3) := by decide +kernel
theorem dX3_dryDays_48 : decode cX3_dryDays 48 = .ok (.pop, 1) := by decide +kernel
theorem dX3_dryDays_49 : decode cX3_dryDays 49 = .ok (.aload_n 0, 1) := by decide +kernel
theorem dX3_dryDays_50 : decode cX3_dryDays 50 = .ok (.getfield 16, 3) := by decide +kernel
theorem dX3_dryDays_53 : decode cX3_dryDays 53 = .ok (.invokevirtual 235, 3) := by decide +kernel
theorem dX3_dryDays_56 : decode cX3_dryDays 56 = .ok (.istore_n 2, 1) := by decide +kernel
theorem dX3_dryDays_57 : decode cX3_dryDays 57 = .ok (.aload_n 0, 1) := by decide +kernel
theorem dX3_dryDays_58 : decode cX3_dryDays 58 = .ok (.getfield 16, 3) := by decide +kernel
theorem dX3_dryDays_61 : decode cX3_dryDays 61 = .ok (.invokevirtual 279, 3) := by decide +kernel
theorem dX3_dryDays_64 : decode cX3_dryDays 64 = .ok (.ifCond .eq 5, 3) := by decide +kernel
theorem dX3_dryDays_67 : decode cX3_dryDays 67 = .ok (.iload_n 1, 1) := by decide +kernel
theorem dX3_dryDays_68 : decode cX3_dryDays 68 = .ok (.ireturn, 1) := by decide +kernel
theorem dX3_dryDays_69 : decode cX3_dryDays 69 = .ok (.iload_n 2, 1) := by decide +kernel
theorem dX3_dryDays_70 : decode cX3_dryDays 70 = .ok (.ifCond .ne 15, 3) := by decide +kernel
theorem dX3_dryDays_73 : decode cX3_dryDays 73 = .ok (.aload_n 0, 1) := by decide +kernel
theorem dX3_dryDays_74 : decode cX3_dryDays 74 = .ok (.getfield 16, 3) := by decide +kernel
theorem dX3_dryDays_77 : decode cX3_dryDays 77 = .ok (.invokevirtual 141, 3) := by decide +kernel
theorem dX3_dryDays_80 : decode cX3_dryDays 80 = .ok (.ifCond .eq 5, 3) := by decide +kernel
theorem dX3_dryDays_83 : decode cX3_dryDays 83 = .ok (.iconst (-1), 1) := by decide +kernel
theorem dX3_dryDays_84 : decode cX3_dryDays 84 = .ok (.ireturn, 1) := by decide +kernel
theorem dX3_dryDays_85 : decode cX3_dryDays 85 = .ok (.iinc 1 1, 3) := by decide +kernel
theorem dX3_dryDays_88 : decode cX3_dryDays 88 = .ok (.goto (-55), 3) := by decide +kernel
theorem dX3_dryDays_91 : decode cX3_dryDays 91 = .ok (.iconst (-1), 1) := by decide +kernel
theorem dX3_dryDays_92 : decode cX3_dryDays 92 = .ok (.ireturn, 1) := by decide +kernel
theorem dX3_bestLength_0 : decode cX3_bestLength 0 = .ok (.aload_n 0, 1) := by decide +kernel
theorem dX3_bestLength_1 : decode cX3_bestLength 1 = .ok (.getfield 10, 3) := by decide +kernel
theorem dX3_bestLength_4 : decode cX3_bestLength 4 = .ok (.invokevirtual 299, 3) := by decide +kernel
theorem dX3_bestLength_7 : decode cX3_bestLength 7 = .ok (.ifCond .eq 5, 3) := by decide +kernel
theorem dX3_bestLength_10 : decode cX3_bestLength 10 = .ok (.iconst (-1), 1) := by decide +kernel
theorem dX3_bestLength_11 : decode cX3_bestLength 11 = .ok (.ireturn, 1) := by decide +kernel
theorem dX3_bestLength_12 : decode cX3_bestLength 12 = .ok (.iconst (-1), 1) := by decide +kernel
theorem dX3_bestLength_13 : decode cX3_bestLength 13 = .ok (.istore_n 1, 1) := by decide +kernel
theorem dX3_bestLength_14 : decode cX3_bestLength 14 = .ok (.iconst 0, 1) := by decide +kernel
theorem dX3_bestLength_15 : decode cX3_bestLength 15 = .ok (.istore_n 2, 1) := by decide +kernel
theorem dX3_bestLength_16 : decode cX3_bestLength 16 = .ok (.aload_n 0, 1) := by decide +kernel
theorem dX3_bestLength_17 : decode cX3_bestLength 17 = .ok (.getfield 10, 3) := by decide +kernel
theorem dX3_bestLength_20 : decode cX3_bestLength 20 = .ok (.invokevirtual 148, 3) := by decide +kernel
theorem dX3_bestLength_23 : decode cX3_bestLength 23 = .ok (.istore_n 3, 1) := by decide +kernel
theorem dX3_bestLength_24 : decode cX3_bestLength 24 = .ok (.iload_n 3, 1) := by decide +kernel
theorem dX3_bestLength_25 : decode cX3_bestLength 25 = .ok (.bipush 8, 2) := by decide +kernel
theorem dX3_bestLength_27 : decode cX3_bestLength 27 = .ok (.if_icmp .lt 47, 3) := by decide +kernel
theorem dX3_bestLength_30 : decode cX3_bestLength 30 = .ok (.aload_n 0, 1) := by decide +kernel
theorem dX3_bestLength_31 : decode cX3_bestLength 31 = .ok (.getfield 10, 3) := by decide +kernel
theorem dX3_bestLength_34 : decode cX3_bestLength 34 = .ok (.aload_n 0, 1) := by decide +kernel
theorem dX3_bestLength_35 : decode cX3_bestLength 35 = .ok (.getfield 10, 3) := by decide +kernel
theorem dX3_bestLength_38 : decode cX3_bestLength 38 = .ok (.iload_n 3, 1) := by decide +kernel
theorem dX3_bestLength_39 : decode cX3_bestLength 39 = .ok (.invokevirtual 287, 3) := by decide +kernel
theorem dX3_bestLength_42 : decode cX3_bestLength 42 = .ok (.invokevirtual 290, 3) := by decide +kernel
theorem dX3_bestLength_45 : decode cX3_bestLength 45 = .ok (.iload_n 3, 1) := by decide +kernel
theorem dX3_bestLength_46 : decode cX3_bestLength 46 = .ok (.invokestatic 126, 3) := by decide +kernel
theorem dX3_bestLength_49 : decode cX3_bestLength 49 = .ok (.imul, 1) := by decide +kernel
theorem dX3_bestLength_50 : decode cX3_bestLength 50 = .ok (.istore 4, 2) := by decide +kernel
theorem dX3_bestLength_52 : decode cX3_bestLength 52 = .ok (.iload_n 1, 1) := by decide +kernel
theorem dX3_bestLength_53 : decode cX3_bestLength 53 = .ok (.iconst (-1), 1) := by decide +kernel
theorem dX3_bestLength_54 : decode cX3_bestLength 54 = .ok (.if_icmp .eq 9, 3) := by decide +kernel
theorem dX3_bestLength_57 : decode cX3_bestLength 57 = .ok (.iload 4, 2) := by decide +kernel
theorem dX3_bestLength_59 : decode cX3_bestLength 59 = .ok (.iload_n 2, 1) := by decide +kernel
theorem dX3_bestLength_60 : decode cX3_bestLength 60 = .ok (.if_icmp .ge 8, 3) := by decide +kernel
theorem dX3_bestLength_63 : decode cX3_bestLength 63 = .ok (.iload_n 3, 1) := by decide +kernel
theorem dX3_bestLength_64 : decode cX3_bestLength 64 = .ok (.istore_n 1, 1) := by decide +kernel
theorem dX3_bestLength_65 : decode cX3_bestLength 65 = .ok (.iload 4, 2) := by decide +kernel
theorem dX3_bestLength_67 : decode cX3_bestLength 67 = .ok (.istore_n 2, 1) := by decide +kernel
theorem dX3_bestLength_68 : decode cX3_bestLength 68 = .ok (.iinc 3 (-1), 3) := by decide +kernel
theorem dX3_bestLength_71 : decode cX3_bestLength 71 = .ok (.goto (-47), 3) := by decide +kernel
theorem dX3_bestLength_74 : decode cX3_bestLength 74 = .ok (.iload_n 1, 1) := by decide +kernel
theorem dX3_bestLength_75 : decode cX3_bestLength 75 = .ok (.ireturn, 1) := by decide +kernel
theorem dX3_meanPrice_0 : decode cX3_meanPrice 0 = .ok (.aload_n 0, 1) := by decide +kernel
theorem dX3_meanPrice_1 : decode cX3_meanPrice 1 = .ok (.getfield 10, 3) := by decide +kernel
theorem dX3_meanPrice_4 : decode cX3_meanPrice 4 = .ok (.invokevirtual 48, 3) := by decide +kernel
theorem dX3_meanPrice_7 : decode cX3_meanPrice 7 = .ok (.aload_n 0, 1) := by decide +kernel
theorem dX3_meanPrice_8 : decode cX3_meanPrice 8 = .ok (.getfield 10, 3) := by decide +kernel
theorem dX3_meanPrice_11 : decode cX3_meanPrice 11 = .ok (.getfield 52, 3) := by decide +kernel
theorem dX3_meanPrice_14 : decode cX3_meanPrice 14 = .ok (.iadd, 1) := by decide +kernel
theorem dX3_meanPrice_15 : decode cX3_meanPrice 15 = .ok (.istore_n 1, 1) := by decide +kernel
theorem dX3_meanPrice_16 : decode cX3_meanPrice 16 = .ok (.iload_n 1, 1) := by decide +kernel
theorem dX3_meanPrice_17 : decode cX3_meanPrice 17 = .ok (.ifCond .gt 5, 3) := by decide +kernel
theorem dX3_meanPrice_20 : decode cX3_meanPrice 20 = .ok (.dconst 0, 1) := by decide +kernel
theorem dX3_meanPrice_21 : decode cX3_meanPrice 21 = .ok (.dreturn, 1) := by decide +kernel
theorem dX3_meanPrice_22 : decode cX3_meanPrice 22 = .ok (.aload_n 0, 1) := by decide +kernel
theorem dX3_meanPrice_23 : decode cX3_meanPrice 23 = .ok (.getfield 10, 3) := by decide +kernel
theorem dX3_meanPrice_26 : decode cX3_meanPrice 26 = .ok (.getfield 123, 3) := by decide +kernel
theorem dX3_meanPrice_29 : decode cX3_meanPrice 29 = .ok (.i2d, 1) := by decide +kernel
theorem dX3_meanPrice_30 : decode cX3_meanPrice 30 = .ok (.iload_n 1, 1) := by decide +kernel
theorem dX3_meanPrice_31 : decode cX3_meanPrice 31 = .ok (.i2d, 1) := by decide +kernel
theorem dX3_meanPrice_32 : decode cX3_meanPrice 32 = .ok (.ddiv, 1) := by decide +kernel
theorem dX3_meanPrice_33 : decode cX3_meanPrice 33 = .ok (.dreturn, 1) := by decide +kernel
theorem dX3_digest_0 : decode cX3_digest 0 = .ok (.ldc2_w 302, 3) := by decide +kernel
theorem dX3_digest_3 : decode cX3_digest 3 = .ok (.lstore_n 1, 1) := by decide +kernel
theorem dX3_digest_4 : decode cX3_digest 4 = .ok (.iconst 0, 1) := by decide +kernel
theorem dX3_digest_5 : decode cX3_digest 5 = .ok (.istore_n 3, 1) := by decide +kernel
theorem dX3_digest_6 : decode cX3_digest 6 = .ok (.iload_n 3, 1) := by decide +kernel
theorem dX3_digest_7 : decode cX3_digest 7 = .ok (.bipush 18, 2) := by decide +kernel
theorem dX3_digest_9 : decode cX3_digest 9 = .ok (.if_icmp .gt 20, 3) := by decide +kernel
theorem dX3_digest_12 : decode cX3_digest 12 = .ok (.lload_n 1, 1) := by decide +kernel
theorem dX3_digest_13 : decode cX3_digest 13 = .ok (.aload_n 0, 1) := by decide +kernel
theorem dX3_digest_14 : decode cX3_digest 14 = .ok (.iload_n 3, 1) := by decide +kernel
theorem dX3_digest_15 : decode cX3_digest 15 = .ok (.invokevirtual 304, 3) := by decide +kernel
theorem dX3_digest_18 : decode cX3_digest 18 = .ok (.i2l, 1) := by decide +kernel
theorem dX3_digest_19 : decode cX3_digest 19 = .ok (.invokestatic 307, 3) := by decide +kernel
theorem dX3_digest_22 : decode cX3_digest 22 = .ok (.lstore_n 1, 1) := by decide +kernel
theorem dX3_digest_23 : decode cX3_digest 23 = .ok (.iinc 3 1, 3) := by decide +kernel
theorem dX3_digest_26 : decode cX3_digest 26 = .ok (.goto (-20), 3) := by decide +kernel
theorem dX3_digest_29 : decode cX3_digest 29 = .ok (.iconst 0, 1) := by decide +kernel
theorem dX3_digest_30 : decode cX3_digest 30 = .ok (.istore_n 3, 1) := by decide +kernel
theorem dX3_digest_31 : decode cX3_digest 31 = .ok (.iload_n 3, 1) := by decide +kernel
theorem dX3_digest_32 : decode cX3_digest 32 = .ok (.iconst 2, 1) := by decide +kernel
theorem dX3_digest_33 : decode cX3_digest 33 = .ok (.if_icmp .gt 20, 3) := by decide +kernel
theorem dX3_digest_36 : decode cX3_digest 36 = .ok (.lload_n 1, 1) := by decide +kernel
theorem dX3_digest_37 : decode cX3_digest 37 = .ok (.aload_n 0, 1) := by decide +kernel
theorem dX3_digest_38 : decode cX3_digest 38 = .ok (.iload_n 3, 1) := by decide +kernel
theorem dX3_digest_39 : decode cX3_digest 39 = .ok (.invokevirtual 311, 3) := by decide +kernel
theorem dX3_digest_42 : decode cX3_digest 42 = .ok (.i2l, 1) := by decide +kernel
theorem dX3_digest_43 : decode cX3_digest 43 = .ok (.invokestatic 307, 3) := by decide +kernel
theorem dX3_digest_46 : decode cX3_digest 46 = .ok (.lstore_n 1, 1) := by decide +kernel
theorem dX3_digest_47 : decode cX3_digest 47 = .ok (.iinc 3 1, 3) := by decide +kernel
theorem dX3_digest_50 : decode cX3_digest 50 = .ok (.goto (-19), 3) := by decide +kernel
theorem dX3_digest_53 : decode cX3_digest 53 = .ok (.aload_n 0, 1) := by decide +kernel
theorem dX3_digest_54 : decode cX3_digest 54 = .ok (.lload_n 1, 1) := by decide +kernel
theorem dX3_digest_55 : decode cX3_digest 55 = .ok (.invokevirtual 314, 3) := by decide +kernel
theorem dX3_digest_58 : decode cX3_digest 58 = .ok (.lstore_n 1, 1) := by decide +kernel
theorem dX3_digest_59 : decode cX3_digest 59 = .ok (.aload_n 0, 1) := by decide +kernel
theorem dX3_digest_60 : decode cX3_digest 60 = .ok (.lload_n 1, 1) := by decide +kernel
theorem dX3_digest_61 : decode cX3_digest 61 = .ok (.invokevirtual 318, 3) := by decide +kernel
theorem dX3_digest_64 : decode cX3_digest 64 = .ok (.lstore_n 1, 1) := by decide +kernel
theorem dX3_digest_65 : decode cX3_digest 65 = .ok (.iconst 0, 1) := by decide +kernel
theorem dX3_digest_66 : decode cX3_digest 66 = .ok (.istore_n 3, 1) := by decide +kernel
theorem dX3_digest_67 : decode cX3_digest 67 = .ok (.iload_n 3, 1) := by decide +kernel
theorem dX3_digest_68 : decode cX3_digest 68 = .ok (.iconst 3, 1) := by decide +kernel
theorem dX3_digest_69 : decode cX3_digest 69 = .ok (.if_icmp .gt 20, 3) := by decide +kernel
theorem dX3_digest_72 : decode cX3_digest 72 = .ok (.lload_n 1, 1) := by decide +kernel
theorem dX3_digest_73 : decode cX3_digest 73 = .ok (.aload_n 0, 1) := by decide +kernel
theorem dX3_digest_74 : decode cX3_digest 74 = .ok (.iload_n 3, 1) := by decide +kernel
theorem dX3_digest_75 : decode cX3_digest 75 = .ok (.invokevirtual 321, 3) := by decide +kernel
theorem dX3_digest_78 : decode cX3_digest 78 = .ok (.i2l, 1) := by decide +kernel
theorem dX3_digest_79 : decode cX3_digest 79 = .ok (.invokestatic 307, 3) := by decide +kernel
theorem dX3_digest_82 : decode cX3_digest 82 = .ok (.lstore_n 1, 1) := by decide +kernel
theorem dX3_digest_83 : decode cX3_digest 83 = .ok (.iinc 3 1, 3) := by decide +kernel
theorem dX3_digest_86 : decode cX3_digest 86 = .ok (.goto (-19), 3) := by decide +kernel
theorem dX3_digest_89 : decode cX3_digest 89 = .ok (.lload_n 1, 1) := by decide +kernel
theorem dX3_digest_90 : decode cX3_digest 90 = .ok (.aload_n 0, 1) := by decide +kernel
theorem dX3_digest_91 : decode cX3_digest 91 = .ok (.invokevirtual 324, 3) := by decide +kernel
theorem dX3_digest_94 : decode cX3_digest 94 = .ok (.i2l, 1) := by decide +kernel
theorem dX3_digest_95 : decode cX3_digest 95 = .ok (.invokestatic 307, 3) := by decide +kernel
theorem dX3_digest_98 : decode cX3_digest 98 = .ok (.lstore_n 1, 1) := by decide +kernel
theorem dX3_digest_99 : decode cX3_digest 99 = .ok (.lload_n 1, 1) := by decide +kernel
theorem dX3_digest_100 : decode cX3_digest 100 = .ok (.aload_n 0, 1) := by decide +kernel
theorem dX3_digest_101 : decode cX3_digest 101 = .ok (.invokevirtual 327, 3) := by decide +kernel
theorem dX3_digest_104 : decode cX3_digest 104 = .ok (.i2l, 1) := by decide +kernel
theorem dX3_digest_105 : decode cX3_digest 105 = .ok (.invokestatic 307, 3) := by decide +kernel
theorem dX3_digest_108 : decode cX3_digest 108 = .ok (.lstore_n 1, 1) := by decide +kernel
theorem dX3_digest_109 : decode cX3_digest 109 = .ok (.lload_n 1, 1) := by decide +kernel
theorem dX3_digest_110 : decode cX3_digest 110 = .ok (.aload_n 0, 1) := by decide +kernel
theorem dX3_digest_111 : decode cX3_digest 111 = .ok (.invokevirtual 330, 3) := by decide +kernel
theorem dX3_digest_114 : decode cX3_digest 114 = .ok (.invokestatic 334, 3) := by decide +kernel
theorem dX3_digest_117 : decode cX3_digest 117 = .ok (.invokestatic 307, 3) := by decide +kernel
theorem dX3_digest_120 : decode cX3_digest 120 = .ok (.lstore_n 1, 1) := by decide +kernel
theorem dX3_digest_121 : decode cX3_digest 121 = .ok (.lload_n 1, 1) := by decide +kernel
theorem dX3_digest_122 : decode cX3_digest 122 = .ok (.aload_n 0, 1) := by decide +kernel
theorem dX3_digest_123 : decode cX3_digest 123 = .ok (.getfield 29, 3) := by decide +kernel
theorem dX3_digest_126 : decode cX3_digest 126 = .ok (.getfield 204, 3) := by decide +kernel
theorem dX3_digest_129 : decode cX3_digest 129 = .ok (.i2l, 1) := by decide +kernel
theorem dX3_digest_130 : decode cX3_digest 130 = .ok (.invokestatic 307, 3) := by decide +kernel
theorem dX3_digest_133 : decode cX3_digest 133 = .ok (.lstore_n 1, 1) := by decide +kernel
theorem dX3_digest_134 : decode cX3_digest 134 = .ok (.iconst 0, 1) := by decide +kernel
theorem dX3_digest_135 : decode cX3_digest 135 = .ok (.istore_n 3, 1) := by decide +kernel
theorem dX3_digest_136 : decode cX3_digest 136 = .ok (.iload_n 3, 1) := by decide +kernel
theorem dX3_digest_137 : decode cX3_digest 137 = .ok (.aload_n 0, 1) := by decide +kernel
theorem dX3_digest_138 : decode cX3_digest 138 = .ok (.getfield 29, 3) := by decide +kernel
theorem dX3_digest_141 : decode cX3_digest 141 = .ok (.getfield 204, 3) := by decide +kernel
theorem dX3_digest_144 : decode cX3_digest 144 = .ok (.if_icmp .ge 23, 3) := by decide +kernel
theorem dX3_digest_147 : decode cX3_digest 147 = .ok (.lload_n 1, 1) := by decide +kernel
theorem dX3_digest_148 : decode cX3_digest 148 = .ok (.aload_n 0, 1) := by decide +kernel
theorem dX3_digest_149 : decode cX3_digest 149 = .ok (.getfield 29, 3) := by decide +kernel
theorem dX3_digest_152 : decode cX3_digest 152 = .ok (.iload_n 3, 1) := by decide +kernel
theorem dX3_digest_153 : decode cX3_digest 153 = .ok (.invokevirtual 338, 3) := by decide +kernel
theorem dX3_digest_156 : decode cX3_digest 156 = .ok (.i2l, 1) := by decide +kernel
theorem dX3_digest_157 : decode cX3_digest 157 = .ok (.invokestatic 307, 3) := by decide +kernel
theorem dX3_digest_160 : decode cX3_digest 160 = .ok (.lstore_n 1, 1) := by decide +kernel
theorem dX3_digest_161 : decode cX3_digest 161 = .ok (.iinc 3 1, 3) := by decide +kernel
theorem dX3_digest_164 : decode cX3_digest 164 = .ok (.goto (-28), 3) := by decide +kernel
theorem dX3_digest_167 : decode cX3_digest 167 = .ok (.lload_n 1, 1) := by decide +kernel
theorem dX3_digest_168 : decode cX3_digest 168 = .ok (.lreturn, 1) := by decide +kernel
theorem dX3_withLengths_0 : decode cX3_withLengths 0 = .ok (.lload_n 1, 1) := by decide +kernel
theorem dX3_withLengths_1 : decode cX3_withLengths 1 = .ok (.lstore_n 3, 1) := by decide +kernel
theorem dX3_withLengths_2 : decode cX3_withLengths 2 = .ok (.bipush 8, 2) := by decide +kernel
theorem dX3_withLengths_4 : decode cX3_withLengths 4 = .ok (.istore 5, 2) := by decide +kernel
theorem dX3_withLengths_6 : decode cX3_withLengths 6 = .ok (.iload 5, 2) := by decide +kernel
theorem dX3_withLengths_8 : decode cX3_withLengths 8 = .ok (.bipush 24, 2) := by decide +kernel
theorem dX3_withLengths_10 : decode cX3_withLengths 10 = .ok (.if_icmp .gt 64, 3) := by decide +kernel
theorem dX3_withLengths_13 : decode cX3_withLengths 13 = .ok (.iconst 0, 1) := by decide +kernel
theorem dX3_withLengths_14 : decode cX3_withLengths 14 = .ok (.istore 6, 2) := by decide +kernel
theorem dX3_withLengths_16 : decode cX3_withLengths 16 = .ok (.iload 6, 2) := by decide +kernel
theorem dX3_withLengths_18 : decode cX3_withLengths 18 = .ok (.iconst 3, 1) := by decide +kernel
theorem dX3_withLengths_19 : decode cX3_withLengths 19 = .ok (.if_icmp .gt 23, 3) := by decide +kernel
theorem dX3_withLengths_22 : decode cX3_withLengths 22 = .ok (.lload_n 3, 1) := by decide +kernel
theorem dX3_withLengths_23 : decode cX3_withLengths 23 = .ok (.aload_n 0, 1) := by decide +kernel
theorem dX3_withLengths_24 : decode cX3_withLengths 24 = .ok (.iload 5, 2) := by decide +kernel
theorem dX3_withLengths_26 : decode cX3_withLengths 26 = .ok (.iload 6, 2) := by decide +kernel
theorem dX3_withLengths_28 : decode cX3_withLengths 28 = .ok (.invokevirtual 342, 3) := by decide +kernel
theorem dX3_withLengths_31 : decode cX3_withLengths 31 = .ok (.i2l, 1) := by decide +kernel
theorem dX3_withLengths_32 : decode cX3_withLengths 32 = .ok (.invokestatic 307, 3) := by decide +kernel
theorem dX3_withLengths_35 : decode cX3_withLengths 35 = .ok (.lstore_n 3, 1) := by decide +kernel
theorem dX3_withLengths_36 : decode cX3_withLengths 36 = .ok (.iinc 6 1, 3) := by decide +kernel
theorem dX3_withLengths_39 : decode cX3_withLengths 39 = .ok (.goto (-23), 3) := by decide +kernel
theorem dX3_withLengths_42 : decode cX3_withLengths 42 = .ok (.lload_n 3, 1) := by decide +kernel
theorem dX3_withLengths_43 : decode cX3_withLengths 43 = .ok (.aload_n 0, 1) := by decide +kernel
theorem dX3_withLengths_44 : decode cX3_withLengths 44 = .ok (.iload 5, 2) := by decide +kernel
theorem dX3_withLengths_46 : decode cX3_withLengths 46 = .ok (.iconst 0, 1) := by decide +kernel
theorem dX3_withLengths_47 : decode cX3_withLengths 47 = .ok (.invokevirtual 345, 3) := by decide +kernel
theorem dX3_withLengths_50 : decode cX3_withLengths 50 = .ok (.i2l, 1) := by decide +kernel
theorem dX3_withLengths_51 : decode cX3_withLengths 51 = .ok (.invokestatic 307, 3) := by decide +kernel
theorem dX3_withLengths_54 : decode cX3_withLengths 54 = .ok (.lstore_n 3, 1) := by decide +kernel
theorem dX3_withLengths_55 : decode cX3_withLengths 55 = .ok (.lload_n 3, 1) := by decide +kernel
theorem dX3_withLengths_56 : decode cX3_withLengths 56 = .ok (.aload_n 0, 1) := by decide +kernel
theorem dX3_withLengths_57 : decode cX3_withLengths 57 = .ok (.iload 5, 2) := by decide +kernel
theorem dX3_withLengths_59 : decode cX3_withLengths 59 = .ok (.iconst 1, 1) := by decide +kernel
theorem dX3_withLengths_60 : decode cX3_withLengths 60 = .ok (.invokevirtual 345, 3) := by decide +kernel
theorem dX3_withLengths_63 : decode cX3_withLengths 63 = .ok (.i2l, 1) := by decide +kernel
theorem dX3_withLengths_64 : decode cX3_withLengths 64 = .ok (.invokestatic 307, 3) := by decide +kernel
theorem dX3_withLengths_67 : decode cX3_withLengths 67 = .ok (.lstore_n 3, 1) := by decide +kernel
theorem dX3_withLengths_68 : decode cX3_withLengths 68 = .ok (.iinc 5 1, 3) := by decide +kernel
theorem dX3_withLengths_71 : decode cX3_withLengths 71 = .ok (.goto (-65), 3) := by decide +kernel
theorem dX3_withLengths_74 : decode cX3_withLengths 74 = .ok (.lload_n 3, 1) := by decide +kernel
theorem dX3_withLengths_75 : decode cX3_withLengths 75 = .ok (.lreturn, 1) := by decide +kernel
theorem dX3_withCourses_0 : decode cX3_withCourses 0 = .ok (.lload_n 1, 1) := by decide +kernel
theorem dX3_withCourses_1 : decode cX3_withCourses 1 = .ok (.lstore_n 3, 1) := by decide +kernel
theorem dX3_withCourses_2 : decode cX3_withCourses 2 = .ok (.iconst 0, 1) := by decide +kernel
theorem dX3_withCourses_3 : decode cX3_withCourses 3 = .ok (.istore 5, 2) := by decide +kernel
theorem dX3_withCourses_5 : decode cX3_withCourses 5 = .ok (.iload 5, 2) := by decide +kernel
theorem dX3_withCourses_7 : decode cX3_withCourses 7 = .ok (.aload_n 0, 1) := by decide +kernel
theorem dX3_withCourses_8 : decode cX3_withCourses 8 = .ok (.getfield 10, 3) := by decide +kernel
theorem dX3_withCourses_11 : decode cX3_withCourses 11 = .ok (.getfield 56, 3) := by decide +kernel
theorem dX3_withCourses_14 : decode cX3_withCourses 14 = .ok (.if_icmp .ge 90, 3) := by decide +kernel
theorem dX3_withCourses_17 : decode cX3_withCourses 17 = .ok (.iconst 0, 1) := by decide +kernel
theorem dX3_withCourses_18 : decode cX3_withCourses 18 = .ok (.istore 6, 2) := by decide +kernel
theorem dX3_withCourses_20 : decode cX3_withCourses 20 = .ok (.iload 6, 2) := by decide +kernel
theorem dX3_withCourses_22 : decode cX3_withCourses 22 = .ok (.bipush 6, 2) := by decide +kernel
theorem dX3_withCourses_24 : decode cX3_withCourses 24 = .ok (.if_icmp .gt 23, 3) := by decide +kernel
theorem dX3_withCourses_27 : decode cX3_withCourses 27 = .ok (.lload_n 3, 1) := by decide +kernel
theorem dX3_withCourses_28 : decode cX3_withCourses 28 = .ok (.aload_n 0, 1) := by decide +kernel
theorem dX3_withCourses_29 : decode cX3_withCourses 29 = .ok (.iload 5, 2) := by decide +kernel
theorem dX3_withCourses_31 : decode cX3_withCourses 31 = .ok (.iload 6, 2) := by decide +kernel
theorem dX3_withCourses_33 : decode cX3_withCourses 33 = .ok (.invokevirtual 348, 3) := by decide +kernel
theorem dX3_withCourses_36 : decode cX3_withCourses 36 = .ok (.i2l, 1) := by decide +kernel
theorem dX3_withCourses_37 : decode cX3_withCourses 37 = .ok (.invokestatic 307, 3) := by decide +kernel
theorem dX3_withCourses_40 : decode cX3_withCourses 40 = .ok (.lstore_n 3, 1) := by decide +kernel
theorem dX3_withCourses_41 : decode cX3_withCourses 41 = .ok (.iinc 6 1, 3) := by decide +kernel
theorem dX3_withCourses_44 : decode cX3_withCourses 44 = .ok (.goto (-24), 3) := by decide +kernel
theorem dX3_withCourses_47 : decode cX3_withCourses 47 = .ok (.aload_n 0, 1) := by decide +kernel
theorem dX3_withCourses_48 : decode cX3_withCourses 48 = .ok (.getfield 10, 3) := by decide +kernel
theorem dX3_withCourses_51 : decode cX3_withCourses 51 = .ok (.iload 5, 2) := by decide +kernel
theorem dX3_withCourses_53 : decode cX3_withCourses 53 = .ok (.invokevirtual 254, 3) := by decide +kernel
theorem dX3_withCourses_56 : decode cX3_withCourses 56 = .ok (.istore 6, 2) := by decide +kernel
theorem dX3_withCourses_58 : decode cX3_withCourses 58 = .ok (.iconst 0, 1) := by decide +kernel
theorem dX3_withCourses_59 : decode cX3_withCourses 59 = .ok (.istore 7, 2) := by decide +kernel
theorem dX3_withCourses_61 : decode cX3_withCourses 61 = .ok (.iload 7, 2) := by decide +kernel
theorem dX3_withCourses_63 : decode cX3_withCourses 63 = .ok (.iload 6, 2) := by decide +kernel
theorem dX3_withCourses_65 : decode cX3_withCourses 65 = .ok (.if_icmp .ge 33, 3) := by decide +kernel
theorem dX3_withCourses_68 : decode cX3_withCourses 68 = .ok (.lload_n 3, 1) := by decide +kernel
theorem dX3_withCourses_69 : decode cX3_withCourses 69 = .ok (.aload_n 0, 1) := by decide +kernel
theorem dX3_withCourses_70 : decode cX3_withCourses 70 = .ok (.getfield 10, 3) := by decide +kernel
theorem dX3_withCourses_73 : decode cX3_withCourses 73 = .ok (.iload 5, 2) := by decide +kernel
theorem dX3_withCourses_75 : decode cX3_withCourses 75 = .ok (.iload 7, 2) := by decide +kernel
theorem dX3_withCourses_77 : decode cX3_withCourses 77 = .ok (.invokevirtual 268, 3) := by decide +kernel
theorem dX3_withCourses_80 : decode cX3_withCourses 80 = .ok (.ifCond .eq 7, 3) := by decide +kernel
theorem dX3_withCourses_83 : decode cX3_withCourses 83 = .ok (.lconst 1, 1) := by decide +kernel
theorem dX3_withCourses_84 : decode cX3_withCourses 84 = .ok (.goto 4, 3) := by decide +kernel
theorem dX3_withCourses_87 : decode cX3_withCourses 87 = .ok (.lconst 0, 1) := by decide +kernel
theorem dX3_withCourses_88 : decode cX3_withCourses 88 = .ok (.invokestatic 307, 3) := by decide +kernel
theorem dX3_withCourses_91 : decode cX3_withCourses 91 = .ok (.lstore_n 3, 1) := by decide +kernel
theorem dX3_withCourses_92 : decode cX3_withCourses 92 = .ok (.iinc 7 1, 3) := by decide +kernel
theorem dX3_withCourses_95 : decode cX3_withCourses 95 = .ok (.goto (-34), 3) := by decide +kernel
theorem dX3_withCourses_98 : decode cX3_withCourses 98 = .ok (.iinc 5 1, 3) := by decide +kernel
theorem dX3_withCourses_101 : decode cX3_withCourses 101 = .ok (.goto (-96), 3) := by decide +kernel
theorem dX3_withCourses_104 : decode cX3_withCourses 104 = .ok (.lload_n 3, 1) := by decide +kernel
theorem dX3_withCourses_105 : decode cX3_withCourses 105 = .ok (.lreturn, 1) := by decide +kernel
theorem dX3_mixed_0 : decode cX3_mixed 0 = .ok (.ldc2_w 351, 3) := by decide +kernel
theorem dX3_mixed_3 : decode cX3_mixed 3 = .ok (.lload_n 0, 1) := by decide +kernel
theorem dX3_mixed_4 : decode cX3_mixed 4 = .ok (.lmul, 1) := by decide +kernel
theorem dX3_mixed_5 : decode cX3_mixed 5 = .ok (.lload_n 2, 1) := by decide +kernel
theorem dX3_mixed_6 : decode cX3_mixed 6 = .ok (.ladd, 1) := by decide +kernel
theorem dX3_mixed_7 : decode cX3_mixed 7 = .ok (.lreturn, 1) := by decide +kernel
theorem dX3_bitsOf_0 : decode cX3_bitsOf 0 = .ok (.dload_n 0, 1) := by decide +kernel
theorem dX3_bitsOf_1 : decode cX3_bitsOf 1 = .ok (.dconst 0, 1) := by decide +kernel
theorem dX3_bitsOf_2 : decode cX3_bitsOf 2 = .ok (.dcmp .l, 1) := by decide +kernel
theorem dX3_bitsOf_3 : decode cX3_bitsOf 3 = .ok (.ifCond .gt 5, 3) := by decide +kernel
theorem dX3_bitsOf_6 : decode cX3_bitsOf 6 = .ok (.lconst 0, 1) := by decide +kernel
theorem dX3_bitsOf_7 : decode cX3_bitsOf 7 = .ok (.lreturn, 1) := by decide +kernel
theorem dX3_bitsOf_8 : decode cX3_bitsOf 8 = .ok (.dload_n 0, 1) := by decide +kernel
theorem dX3_bitsOf_9 : decode cX3_bitsOf 9 = .ok (.dstore_n 2, 1) := by decide +kernel
theorem dX3_bitsOf_10 : decode cX3_bitsOf 10 = .ok (.ldc2_w 353, 3) := by decide +kernel
theorem dX3_bitsOf_13 : decode cX3_bitsOf 13 = .ok (.lstore 4, 2) := by decide +kernel
theorem dX3_bitsOf_15 : decode cX3_bitsOf 15 = .ok (.iconst 0, 1) := by decide +kernel
theorem dX3_bitsOf_16 : decode cX3_bitsOf 16 = .ok (.istore 6, 2) := by decide +kernel
theorem dX3_bitsOf_18 : decode cX3_bitsOf 18 = .ok (.iload 6, 2) := by decide +kernel
theorem dX3_bitsOf_20 : decode cX3_bitsOf 20 = .ok (.sipush 1023, 3) := by decide +kernel
theorem dX3_bitsOf_23 : decode cX3_bitsOf 23 = .ok (.if_icmp .ge 29, 3) := by decide +kernel
theorem dX3_bitsOf_26 : decode cX3_bitsOf 26 = .ok (.dload_n 2, 1) := by decide +kernel
theorem dX3_bitsOf_27 : decode cX3_bitsOf 27 = .ok (.ldc2_w 355, 3) := by decide +kernel
theorem dX3_bitsOf_30 : decode cX3_bitsOf 30 = .ok (.dcmp .l, 1) := by decide +kernel
theorem dX3_bitsOf_31 : decode cX3_bitsOf 31 = .ok (.ifCond .lt 21, 3) := by decide +kernel
theorem dX3_bitsOf_34 : decode cX3_bitsOf 34 = .ok (.dload_n 2, 1) := by decide +kernel
theorem dX3_bitsOf_35 : decode cX3_bitsOf 35 = .ok (.ldc2_w 355, 3) := by decide +kernel
theorem dX3_bitsOf_38 : decode cX3_bitsOf 38 = .ok (.ddiv, 1) := by decide +kernel
theorem dX3_bitsOf_39 : decode cX3_bitsOf 39 = .ok (.dstore_n 2, 1) := by decide +kernel
theorem dX3_bitsOf_40 : decode cX3_bitsOf 40 = .ok (.lload 4, 2) := by decide +kernel
theorem dX3_bitsOf_42 : decode cX3_bitsOf 42 = .ok (.lconst 1, 1) := by decide +kernel
theorem dX3_bitsOf_43 : decode cX3_bitsOf 43 = .ok (.ladd, 1) := by decide +kernel
theorem dX3_bitsOf_44 : decode cX3_bitsOf 44 = .ok (.lstore 4, 2) := by decide +kernel
theorem dX3_bitsOf_46 : decode cX3_bitsOf 46 = .ok (.iinc 6 1, 3) := by decide +kernel
theorem dX3_bitsOf_49 : decode cX3_bitsOf 49 = .ok (.goto (-31), 3) := by decide +kernel
theorem dX3_bitsOf_52 : decode cX3_bitsOf 52 = .ok (.iconst 0, 1) := by decide +kernel
theorem dX3_bitsOf_53 : decode cX3_bitsOf 53 = .ok (.istore 6, 2) := by decide +kernel
theorem dX3_bitsOf_55 : decode cX3_bitsOf 55 = .ok (.iload 6, 2) := by decide +kernel
theorem dX3_bitsOf_57 : decode cX3_bitsOf 57 = .ok (.sipush 1022, 3) := by decide +kernel
theorem dX3_bitsOf_60 : decode cX3_bitsOf 60 = .ok (.if_icmp .ge 27, 3) := by decide +kernel
theorem dX3_bitsOf_63 : decode cX3_bitsOf 63 = .ok (.dload_n 2, 1) := by decide +kernel
theorem dX3_bitsOf_64 : decode cX3_bitsOf 64 = .ok (.dconst 1, 1) := by decide +kernel
theorem dX3_bitsOf_65 : decode cX3_bitsOf 65 = .ok (.dcmp .g, 1) := by decide +kernel
theorem dX3_bitsOf_66 : decode cX3_bitsOf 66 = .ok (.ifCond .ge 21, 3) := by decide +kernel
theorem dX3_bitsOf_69 : decode cX3_bitsOf 69 = .ok (.dload_n 2, 1) := by decide +kernel
theorem dX3_bitsOf_70 : decode cX3_bitsOf 70 = .ok (.ldc2_w 355, 3) := by decide +kernel
theorem dX3_bitsOf_73 : decode cX3_bitsOf 73 = .ok (.dmul, 1) := by decide +kernel
theorem dX3_bitsOf_74 : decode cX3_bitsOf 74 = .ok (.dstore_n 2, 1) := by decide +kernel
theorem dX3_bitsOf_75 : decode cX3_bitsOf 75 = .ok (.lload 4, 2) := by decide +kernel
theorem dX3_bitsOf_77 : decode cX3_bitsOf 77 = .ok (.lconst 1, 1) := by decide +kernel
theorem dX3_bitsOf_78 : decode cX3_bitsOf 78 = .ok (.lsub, 1) := by decide +kernel
theorem dX3_bitsOf_79 : decode cX3_bitsOf 79 = .ok (.lstore 4, 2) := by decide +kernel
theorem dX3_bitsOf_81 : decode cX3_bitsOf 81 = .ok (.iinc 6 1, 3) := by decide +kernel
theorem dX3_bitsOf_84 : decode cX3_bitsOf 84 = .ok (.goto (-29), 3) := by decide +kernel
theorem dX3_bitsOf_87 : decode cX3_bitsOf 87 = .ok (.dload_n 2, 1) := by decide +kernel
theorem dX3_bitsOf_88 : decode cX3_bitsOf 88 = .ok (.dconst 1, 1) := by decide +kernel
theorem dX3_bitsOf_89 : decode cX3_bitsOf 89 = .ok (.dsub, 1) := by decide +kernel
theorem dX3_bitsOf_90 : decode cX3_bitsOf 90 = .ok (.ldc2_w 357, 3) := by decide +kernel
theorem dX3_bitsOf_93 : decode cX3_bitsOf 93 = .ok (.dmul, 1) := by decide +kernel
theorem dX3_bitsOf_94 : decode cX3_bitsOf 94 = .ok (.d2l, 1) := by decide +kernel
theorem dX3_bitsOf_95 : decode cX3_bitsOf 95 = .ok (.lstore 6, 2) := by decide +kernel
theorem dX3_bitsOf_97 : decode cX3_bitsOf 97 = .ok (.lload 4, 2) := by decide +kernel
theorem dX3_bitsOf_99 : decode cX3_bitsOf 99 = .ok (.bipush 52, 2) := by decide +kernel
theorem dX3_bitsOf_101 : decode cX3_bitsOf 101 = .ok (.lshl, 1) := by decide +kernel
theorem dX3_bitsOf_102 : decode cX3_bitsOf 102 = .ok (.lload 6, 2) := by decide +kernel
theorem dX3_bitsOf_104 : decode cX3_bitsOf 104 = .ok (.lor, 1) := by decide +kernel
theorem dX3_bitsOf_105 : decode cX3_bitsOf 105 = .ok (.lreturn, 1) := by decide +kernel
theorem dX3_isWithin_0 : decode cX3_isWithin 0 = .ok (.iload_n 0, 1) := by decide +kernel
theorem dX3_isWithin_1 : decode cX3_isWithin 1 = .ok (.iload_n 1, 1) := by decide +kernel
theorem dX3_isWithin_2 : decode cX3_isWithin 2 = .ok (.if_icmp .lt 12, 3) := by decide +kernel
theorem dX3_isWithin_5 : decode cX3_isWithin 5 = .ok (.iload_n 0, 1) := by decide +kernel
theorem dX3_isWithin_6 : decode cX3_isWithin 6 = .ok (.iload_n 2, 1) := by decide +kernel
theorem dX3_isWithin_7 : decode cX3_isWithin 7 = .ok (.if_icmp .gt 7, 3) := by decide +kernel
theorem dX3_isWithin_10 : decode cX3_isWithin 10 = .ok (.iconst 1, 1) := by decide +kernel
theorem dX3_isWithin_11 : decode cX3_isWithin 11 = .ok (.goto 4, 3) := by decide +kernel
theorem dX3_isWithin_14 : decode cX3_isWithin 14 = .ok (.iconst 0, 1) := by decide +kernel
theorem dX3_isWithin_15 : decode cX3_isWithin 15 = .ok (.ireturn, 1) := by decide +kernel
theorem dX3_isLength_0 : decode cX3_isLength 0 = .ok (.iload_n 0, 1) := by decide +kernel
theorem dX3_isLength_1 : decode cX3_isLength 1 = .ok (.bipush 8, 2) := by decide +kernel
theorem dX3_isLength_3 : decode cX3_isLength 3 = .ok (.if_icmp .lt 13, 3) := by decide +kernel
theorem dX3_isLength_6 : decode cX3_isLength 6 = .ok (.iload_n 0, 1) := by decide +kernel
theorem dX3_isLength_7 : decode cX3_isLength 7 = .ok (.bipush 24, 2) := by decide +kernel
theorem dX3_isLength_9 : decode cX3_isLength 9 = .ok (.if_icmp .gt 7, 3) := by decide +kernel
theorem dX3_isLength_12 : decode cX3_isLength 12 = .ok (.iconst 1, 1) := by decide +kernel
theorem dX3_isLength_13 : decode cX3_isLength 13 = .ok (.goto 4, 3) := by decide +kernel
theorem dX3_isLength_16 : decode cX3_isLength 16 = .ok (.iconst 0, 1) := by decide +kernel
theorem dX3_isLength_17 : decode cX3_isLength 17 = .ok (.ireturn, 1) := by decide +kernel
theorem dX3_priceOf_0 : decode cX3_priceOf 0 = .ok (.iload_n 0, 1) := by decide +kernel
theorem dX3_priceOf_1 : decode cX3_priceOf 1 = .ok (.iload_n 0, 1) := by decide +kernel
theorem dX3_priceOf_2 : decode cX3_priceOf 2 = .ok (.imul, 1) := by decide +kernel
theorem dX3_priceOf_3 : decode cX3_priceOf 3 = .ok (.bipush 16, 2) := by decide +kernel
theorem dX3_priceOf_5 : decode cX3_priceOf 5 = .ok (.idiv, 1) := by decide +kernel
theorem dX3_priceOf_6 : decode cX3_priceOf 6 = .ok (.ireturn, 1) := by decide +kernel
theorem dX3_brokenAmong_0 : decode cX3_brokenAmong 0 = .ok (.iload_n 1, 1) := by decide +kernel
theorem dX3_brokenAmong_1 : decode cX3_brokenAmong 1 = .ok (.istore_n 2, 1) := by decide +kernel
theorem dX3_brokenAmong_2 : decode cX3_brokenAmong 2 = .ok (.iconst 0, 1) := by decide +kernel
theorem dX3_brokenAmong_3 : decode cX3_brokenAmong 3 = .ok (.istore_n 3, 1) := by decide +kernel
theorem dX3_brokenAmong_4 : decode cX3_brokenAmong 4 = .ok (.iconst 0, 1) := by decide +kernel
theorem dX3_brokenAmong_5 : decode cX3_brokenAmong 5 = .ok (.istore 4, 2) := by decide +kernel
theorem dX3_brokenAmong_7 : decode cX3_brokenAmong 7 = .ok (.iload 4, 2) := by decide +kernel
theorem dX3_brokenAmong_9 : decode cX3_brokenAmong 9 = .ok (.iload_n 0, 1) := by decide +kernel
theorem dX3_brokenAmong_10 : decode cX3_brokenAmong 10 = .ok (.if_icmp .ge 36, 3) := by decide +kernel
theorem dX3_brokenAmong_13 : decode cX3_brokenAmong 13 = .ok (.iload_n 2, 1) := by decide +kernel
theorem dX3_brokenAmong_14 : decode cX3_brokenAmong 14 = .ok (.ldc_w 359, 3) := by decide +kernel
theorem dX3_brokenAmong_17 : decode cX3_brokenAmong 17 = .ok (.imul, 1) := by decide +kernel
theorem dX3_brokenAmong_18 : decode cX3_brokenAmong 18 = .ok (.sipush 12345, 3) := by decide +kernel
theorem dX3_brokenAmong_21 : decode cX3_brokenAmong 21 = .ok (.iadd, 1) := by decide +kernel
theorem dX3_brokenAmong_22 : decode cX3_brokenAmong 22 = .ok (.istore_n 2, 1) := by decide +kernel
theorem dX3_brokenAmong_23 : decode cX3_brokenAmong 23 = .ok (.iload_n 2, 1) := by decide +kernel
theorem dX3_brokenAmong_24 : decode cX3_brokenAmong 24 = .ok (.bipush 16, 2) := by decide +kernel
theorem dX3_brokenAmong_26 : decode cX3_brokenAmong 26 = .ok (.iushr, 1) := by decide +kernel
theorem dX3_brokenAmong_27 : decode cX3_brokenAmong 27 = .ok (.sipush 32767, 3) := by decide +kernel
theorem dX3_brokenAmong_30 : decode cX3_brokenAmong 30 = .ok (.iand, 1) := by decide +kernel
theorem dX3_brokenAmong_31 : decode cX3_brokenAmong 31 = .ok (.bipush 10, 2) := by decide +kernel
theorem dX3_brokenAmong_33 : decode cX3_brokenAmong 33 = .ok (.irem, 1) := by decide +kernel
theorem dX3_brokenAmong_34 : decode cX3_brokenAmong 34 = .ok (.ifCond .ne 6, 3) := by decide +kernel
theorem dX3_brokenAmong_37 : decode cX3_brokenAmong 37 = .ok (.iinc 3 1, 3) := by decide +kernel
theorem dX3_brokenAmong_40 : decode cX3_brokenAmong 40 = .ok (.iinc 4 1, 3) := by decide +kernel
theorem dX3_brokenAmong_43 : decode cX3_brokenAmong 43 = .ok (.goto (-36), 3) := by decide +kernel
theorem dX3_brokenAmong_46 : decode cX3_brokenAmong 46 = .ok (.iload_n 3, 1) := by decide +kernel
theorem dX3_brokenAmong_47 : decode cX3_brokenAmong 47 = .ok (.ireturn, 1) := by decide +kernel
theorem dX3_valueAt_0 : decode cX3_valueAt 0 = .ok (.iload_n 1, 1) := by decide +kernel
theorem dX3_valueAt_1 : decode cX3_valueAt 1 = .ok (.ifCond .lt 15, 3) := by decide +kernel
theorem dX3_valueAt_4 : decode cX3_valueAt 4 = .ok (.iload_n 1, 1) := by decide +kernel
theorem dX3_valueAt_5 : decode cX3_valueAt 5 = .ok (.aload_n 0, 1) := by decide +kernel
theorem dX3_valueAt_6 : decode cX3_valueAt 6 = .ok (.arraylength, 1) := by decide +kernel
theorem dX3_valueAt_7 : decode cX3_valueAt 7 = .ok (.if_icmp .ge 9, 3) := by decide +kernel
theorem dX3_valueAt_10 : decode cX3_valueAt 10 = .ok (.aload_n 0, 1) := by decide +kernel
theorem dX3_valueAt_11 : decode cX3_valueAt 11 = .ok (.iload_n 1, 1) := by decide +kernel
theorem dX3_valueAt_12 : decode cX3_valueAt 12 = .ok (.iaload, 1) := by decide +kernel
theorem dX3_valueAt_13 : decode cX3_valueAt 13 = .ok (.goto 4, 3) := by decide +kernel
theorem dX3_valueAt_16 : decode cX3_valueAt 16 = .ok (.iconst 0, 1) := by decide +kernel
theorem dX3_valueAt_17 : decode cX3_valueAt 17 = .ok (.ireturn, 1) := by decide +kernel
theorem dX3_addAt_0 : decode cX3_addAt 0 = .ok (.iload_n 1, 1) := by decide +kernel
theorem dX3_addAt_1 : decode cX3_addAt 1 = .ok (.ifCond .lt 16, 3) := by decide +kernel
theorem dX3_addAt_4 : decode cX3_addAt 4 = .ok (.iload_n 1, 1) := by decide +kernel
theorem dX3_addAt_5 : decode cX3_addAt 5 = .ok (.aload_n 0, 1) := by decide +kernel
theorem dX3_addAt_6 : decode cX3_addAt 6 = .ok (.arraylength, 1) := by decide +kernel
theorem dX3_addAt_7 : decode cX3_addAt 7 = .ok (.if_icmp .ge 10, 3) := by decide +kernel
theorem dX3_addAt_10 : decode cX3_addAt 10 = .ok (.aload_n 0, 1) := by decide +kernel
theorem dX3_addAt_11 : decode cX3_addAt 11 = .ok (.iload_n 1, 1) := by decide +kernel
theorem dX3_addAt_12 : decode cX3_addAt 12 = .ok (.dup2, 1) := by decide +kernel
theorem dX3_addAt_13 : decode cX3_addAt 13 = .ok (.iaload, 1) := by decide +kernel
theorem dX3_addAt_14 : decode cX3_addAt 14 = .ok (.iload_n 2, 1) := by decide +kernel
theorem dX3_addAt_15 : decode cX3_addAt 15 = .ok (.iadd, 1) := by decide +kernel
theorem dX3_addAt_16 : decode cX3_addAt 16 = .ok (.iastore, 1) := by decide +kernel
theorem dX3_addAt_17 : decode cX3_addAt 17 = .ok (.return_, 1) := by decide +kernel
theorem dX3_sumOf_0 : decode cX3_sumOf 0 = .ok (.iconst 0, 1) := by decide +kernel
theorem dX3_sumOf_1 : decode cX3_sumOf 1 = .ok (.istore_n 1, 1) := by decide +kernel
theorem dX3_sumOf_2 : decode cX3_sumOf 2 = .ok (.iconst 0, 1) := by decide +kernel
theorem dX3_sumOf_3 : decode cX3_sumOf 3 = .ok (.istore_n 2, 1) := by decide +kernel
theorem dX3_sumOf_4 : decode cX3_sumOf 4 = .ok (.iload_n 2, 1) := by decide +kernel
theorem dX3_sumOf_5 : decode cX3_sumOf 5 = .ok (.aload_n 0, 1) := by decide +kernel
theorem dX3_sumOf_6 : decode cX3_sumOf 6 = .ok (.arraylength, 1) := by decide +kernel
theorem dX3_sumOf_7 : decode cX3_sumOf 7 = .ok (.if_icmp .ge 15, 3) := by decide +kernel
theorem dX3_sumOf_10 : decode cX3_sumOf 10 = .ok (.iload_n 1, 1) := by decide +kernel
theorem dX3_sumOf_11 : decode cX3_sumOf 11 = .ok (.aload_n 0, 1) := by decide +kernel
theorem dX3_sumOf_12 : decode cX3_sumOf 12 = .ok (.iload_n 2, 1) := by decide +kernel
theorem dX3_sumOf_13 : decode cX3_sumOf 13 = .ok (.iaload, 1) := by decide +kernel
theorem dX3_sumOf_14 : decode cX3_sumOf 14 = .ok (.iadd, 1) := by decide +kernel
theorem dX3_sumOf_15 : decode cX3_sumOf 15 = .ok (.istore_n 1, 1) := by decide +kernel
theorem dX3_sumOf_16 : decode cX3_sumOf 16 = .ok (.iinc 2 1, 3) := by decide +kernel
theorem dX3_sumOf_19 : decode cX3_sumOf 19 = .ok (.goto (-15), 3) := by decide +kernel
theorem dX3_sumOf_22 : decode cX3_sumOf 22 = .ok (.iload_n 1, 1) := by decide +kernel
theorem dX3_sumOf_23 : decode cX3_sumOf 23 = .ok (.ireturn, 1) := by decide +kernel
theorem dX3_copyRow_0 : decode cX3_copyRow 0 = .ok (.aload_n 0, 1) := by decide +kernel
theorem dX3_copyRow_1 : decode cX3_copyRow 1 = .ok (.iconst 0, 1) := by decide +kernel
theorem dX3_copyRow_2 : decode cX3_copyRow 2 = .ok (.aload_n 1, 1) := by decide +kernel
theorem dX3_copyRow_3 : decode cX3_copyRow 3 = .ok (.iconst 0, 1) := by decide +kernel
theorem dX3_copyRow_4 : decode cX3_copyRow 4 = .ok (.aload_n 0, 1) := by decide +kernel
theorem dX3_copyRow_5 : decode cX3_copyRow 5 = .ok (.arraylength, 1) := by decide +kernel
theorem dX3_copyRow_6 : decode cX3_copyRow 6 = .ok (.aload_n 1, 1) := by decide +kernel
theorem dX3_copyRow_7 : decode cX3_copyRow 7 = .ok (.arraylength, 1) := by decide +kernel
theorem dX3_copyRow_8 : decode cX3_copyRow 8 = .ok (.invokestatic 360, 3) := by decide +kernel
theorem dX3_copyRow_11 : decode cX3_copyRow 11 = .ok (.invokestatic 365, 3) := by decide +kernel
theorem dX3_copyRow_14 : decode cX3_copyRow 14 = .ok (.return_, 1) := by decide +kernel
theorem dX4_init_0 : decode cX4_init 0 = .ok (.aload_n 0, 1) := by decide +kernel
theorem dX4_init_1 : decode cX4_init 1 = .ok (.invokespecial 1, 3) := by decide +kernel
theorem dX4_init_4 : decode cX4_init 4 = .ok (.aload_n 0, 1) := by decide +kernel
theorem dX4_init_5 : decode cX4_init 5 = .ok (.sipush 294, 3) := by decide +kernel
theorem dX4_init_8 : decode cX4_init 8 = .ok (.newarray .int, 2) := by decide +kernel
theorem dX4_init_10 : decode cX4_init 10 = .ok (.putfield 7, 3) := by decide +kernel
theorem dX4_init_13 : decode cX4_init 13 = .ok (.aload_n 0, 1) := by decide +kernel
theorem dX4_init_14 : decode cX4_init 14 = .ok (.sipush 294, 3) := by decide +kernel
theorem dX4_init_17 : decode cX4_init 17 = .ok (.newarray .int, 2) := by decide +kernel
theorem dX4_init_19 : decode cX4_init 19 = .ok (.putfield 13, 3) := by decide +kernel
theorem dX4_init_22 : decode cX4_init 22 = .ok (.aload_n 0, 1) := by decide +kernel
theorem dX4_init_23 : decode cX4_init 23 = .ok (.sipush 1764, 3) := by decide +kernel
theorem dX4_init_26 : decode cX4_init 26 = .ok (.newarray .int, 2) := by decide +kernel
theorem dX4_init_28 : decode cX4_init 28 = .ok (.putfield 16, 3) := by decide +kernel
theorem dX4_init_31 : decode cX4_init 31 = .ok (.aload_n 0, 1) := by decide +kernel
theorem dX4_init_32 : decode cX4_init 32 = .ok (.bipush 60, 2) := by decide +kernel
theorem dX4_init_34 : decode cX4_init 34 = .ok (.newarray .int, 2) := by decide +kernel
theorem dX4_init_36 : decode cX4_init 36 = .ok (.putfield 19, 3) := by decide +kernel
theorem dX4_init_39 : decode cX4_init 39 = .ok (.aload_n 0, 1) := by decide +kernel
theorem dX4_init_40 : decode cX4_init 40 = .ok (.sipush 200, 3) := by decide +kernel
theorem dX4_init_43 : decode cX4_init 43 = .ok (.newarray .int, 2) := by decide +kernel
theorem dX4_init_45 : decode cX4_init 45 = .ok (.putfield 22, 3) := by decide +kernel
theorem dX4_init_48 : decode cX4_init 48 = .ok (.aload_n 0, 1) := by decide +kernel
theorem dX4_init_49 : decode cX4_init 49 = .ok (.getfield 7, 3) := by decide +kernel
theorem dX4_init_52 : decode cX4_init 52 = .ok (.iconst 0, 1) := by decide +kernel
theorem dX4_init_53 : decode cX4_init 53 = .ok (.bipush 100, 2) := by decide +kernel
theorem dX4_init_55 : decode cX4_init 55 = .ok (.iastore, 1) := by decide +kernel
theorem dX4_init_56 : decode cX4_init 56 = .ok (.aload_n 0, 1) := by decide +kernel
theorem dX4_init_57 : decode cX4_init 57 = .ok (.getfield 7, 3) := by decide +kernel
theorem dX4_init_60 : decode cX4_init 60 = .ok (.iconst 1, 1) := by decide +kernel
theorem dX4_init_61 : decode cX4_init 61 = .ok (.bipush 6, 2) := by decide +kernel
theorem dX4_init_63 : decode cX4_init 63 = .ok (.iastore, 1) := by decide +kernel
theorem dX4_init_64 : decode cX4_init 64 = .ok (.aload_n 0, 1) := by decide +kernel
theorem dX4_init_65 : decode cX4_init 65 = .ok (.getfield 7, 3) := by decide +kernel
theorem dX4_init_68 : decode cX4_init 68 = .ok (.iconst 3, 1) := by decide +kernel
theorem dX4_init_69 : decode cX4_init 69 = .ok (.iconst 4, 1) := by decide +kernel
theorem dX4_init_70 : decode cX4_init 70 = .ok (.iastore, 1) := by decide +kernel
theorem dX4_init_71 : decode cX4_init 71 = .ok (.aload_n 0, 1) := by decide +kernel
theorem dX4_init_72 : decode cX4_init 72 = .ok (.getfield 7, 3) := by decide +kernel
theorem dX4_init_75 : decode cX4_init 75 = .ok (.iconst 4, 1) := by decide +kernel
theorem dX4_init_76 : decode cX4_init 76 = .ok (.bipush 20, 2) := by decide +kernel
theorem dX4_init_78 : decode cX4_init 78 = .ok (.iastore, 1) := by decide +kernel
theorem dX4_init_79 : decode cX4_init 79 = .ok (.aload_n 0, 1) := by decide +kernel
theorem dX4_init_80 : decode cX4_init 80 = .ok (.getfield 7, 3) := by decide +kernel
theorem dX4_init_83 : decode cX4_init 83 = .ok (.iconst 5, 1) := by decide +kernel
theorem dX4_init_84 : decode cX4_init 84 = .ok (.iconst 2, 1) := by decide +kernel
theorem dX4_init_85 : decode cX4_init 85 = .ok (.iastore, 1) := by decide +kernel
theorem dX4_init_86 : decode cX4_init 86 = .ok (.aload_n 0, 1) := by decide +kernel
theorem dX4_init_87 : decode cX4_init 87 = .ok (.getfield 7, 3) := by decide +kernel
theorem dX4_init_90 : decode cX4_init 90 = .ok (.bipush 7, 2) := by decide +kernel
theorem dX4_init_92 : decode cX4_init 92 = .ok (.bipush 20, 2) := by decide +kernel
theorem dX4_init_94 : decode cX4_init 94 = .ok (.iastore, 1) := by decide +kernel
theorem dX4_init_95 : decode cX4_init 95 = .ok (.return_, 1) := by decide +kernel
theorem dX4_thrown_0 : decode cX4_thrown 0 = .ok (.aload_n 0, 1) := by decide +kernel
theorem dX4_thrown_1 : decode cX4_thrown 1 = .ok (.getfield 25, 3) := by decide +kernel
theorem dX4_thrown_4 : decode cX4_thrown 4 = .ok (.ireturn, 1) := by decide +kernel
theorem dX4_fails_0 : decode cX4_fails 0 = .ok (.aload_n 0, 1) := by decide +kernel
theorem dX4_fails_1 : decode cX4_fails 1 = .ok (.iload_n 1, 1) := by decide +kernel
theorem dX4_fails_2 : decode cX4_fails 2 = .ok (.putfield 25, 3) := by decide +kernel
theorem dX4_fails_5 : decode cX4_fails 5 = .ok (.iconst 0, 1) := by decide +kernel
theorem dX4_fails_6 : decode cX4_fails 6 = .ok (.ireturn, 1) := by decide +kernel
theorem dX4_within_0 : decode cX4_within 0 = .ok (.iload_n 0, 1) := by decide +kernel
theorem dX4_within_1 : decode cX4_within 1 = .ok (.iload_n 1, 1) := by decide +kernel
theorem dX4_within_2 : decode cX4_within 2 = .ok (.if_icmp .lt 12, 3) := by decide +kernel
theorem dX4_within_5 : decode cX4_within 5 = .ok (.iload_n 0, 1) := by decide +kernel
theorem dX4_within_6 : decode cX4_within 6 = .ok (.iload_n 2, 1) := by decide +kernel
theorem dX4_within_7 : decode cX4_within 7 = .ok (.if_icmp .gt 7, 3) := by decide +kernel
theorem dX4_within_10 : decode cX4_within 10 = .ok (.iconst 1, 1) := by decide +kernel
theorem dX4_within_11 : decode cX4_within 11 = .ok (.goto 4, 3) := by decide +kernel
theorem dX4_within_14 : decode cX4_within 14 = .ok (.iconst 0, 1) := by decide +kernel
theorem dX4_within_15 : decode cX4_within 15 = .ok (.ireturn, 1) := by decide +kernel
theorem dX4_isLength_0 : decode cX4_isLength 0 = .ok (.iload_n 0, 1) := by decide +kernel
theorem dX4_isLength_1 : decode cX4_isLength 1 = .ok (.bipush 8, 2) := by decide +kernel
theorem dX4_isLength_3 : decode cX4_isLength 3 = .ok (.bipush 24, 2) := by decide +kernel
theorem dX4_isLength_5 : decode cX4_isLength 5 = .ok (.invokestatic 29, 3) := by decide +kernel
theorem dX4_isLength_8 : decode cX4_isLength 8 = .ok (.ireturn, 1) := by decide +kernel
theorem dX4_save_0 : decode cX4_save 0 = .ok (.aload_n 0, 1) := by decide +kernel
theorem dX4_save_1 : decode cX4_save 1 = .ok (.getfield 33, 3) := by decide +kernel
theorem dX4_save_4 : decode cX4_save 4 = .ok (.bipush 6, 2) := by decide +kernel
theorem dX4_save_6 : decode cX4_save 6 = .ok (.if_icmp .ne 44, 3) := by decide +kernel
theorem dX4_save_9 : decode cX4_save 9 = .ok (.iconst 0, 1) := by decide +kernel
theorem dX4_save_10 : decode cX4_save 10 = .ok (.istore_n 1, 1) := by decide +kernel
theorem dX4_save_11 : decode cX4_save 11 = .ok (.iload_n 1, 1) := by decide +kernel
theorem dX4_save_12 : decode cX4_save 12 = .ok (.sipush 1470, 3) := by decide +kernel
theorem dX4_save_15 : decode cX4_save 15 = .ok (.if_icmp .ge 25, 3) := by decide +kernel
theorem dX4_save_18 : decode cX4_save 18 = .ok (.aload_n 0, 1) := by decide +kernel
theorem dX4_save_19 : decode cX4_save 19 = .ok (.getfield 16, 3) := by decide +kernel
theorem dX4_save_22 : decode cX4_save 22 = .ok (.iload_n 1, 1) := by decide +kernel
theorem dX4_save_23 : decode cX4_save 23 = .ok (.aload_n 0, 1) := by decide +kernel
theorem dX4_save_24 : decode cX4_save 24 = .ok (.getfield 16, 3) := by decide +kernel
theorem dX4_save_27 : decode cX4_save 27 = .ok (.sipush 294, 3) := by decide +kernel
theorem dX4_save_30 : decode cX4_save 30 = .ok (.iload_n 1, 1) := by decide +kernel
theorem dX4_save_31 : decode cX4_save 31 = .ok (.iadd, 1) := by decide +kernel
theorem dX4_save_32 : decode cX4_save 32 = .ok (.iaload, 1) := by decide +kernel
theorem dX4_save_33 : decode cX4_save 33 = .ok (.iastore, 1) := by decide +kernel
theorem dX4_save_34 : decode cX4_save 34 = .ok (.iinc 1 1, 3) := by decide +kernel
theorem dX4_save_37 : decode cX4_save 37 = .ok (.goto (-26), 3) := by decide +kernel
theorem dX4_save_40 : decode cX4_save 40 = .ok (.aload_n 0, 1) := by decide +kernel
theorem dX4_save_41 : decode cX4_save 41 = .ok (.dup, 1) := by decide +kernel
theorem dX4_save_42 : decode cX4_save 42 = .ok (.getfield 33, 3) := by decide +kernel
theorem dX4_save_45 : decode cX4_save 45 = .ok (.iconst 1, 1) := by decide +kernel
theorem dX4_save_46 : decode cX4_save 46 = .ok (.isub, 1) := by decide +kernel
theorem dX4_save_47 : decode cX4_save 47 = .ok (.putfield 33, 3) := by decide +kernel
theorem dX4_save_50 : decode cX4_save 50 = .ok (.iconst 0, 1) := by decide +kernel
theorem dX4_save_51 : decode cX4_save 51 = .ok (.istore_n 1, 1) := by decide +kernel
theorem dX4_save_52 : decode cX4_save 52 = .ok (.iload_n 1, 1) := by decide +kernel
theorem dX4_save_53 : decode cX4_save 53 = .ok (.sipush 294, 3) := by decide +kernel
theorem dX4_save_56 : decode cX4_save 56 = .ok (.if_icmp .ge 30, 3) := by decide +kernel
theorem dX4_save_59 : decode cX4_save 59 = .ok (.aload_n 0, 1) := by decide +kernel
theorem dX4_save_60 : decode cX4_save 60 = .ok (.getfield 16, 3) := by decide +kernel
theorem dX4_save_63 : decode cX4_save 63 = .ok (.sipush 294, 3) := by decide +kernel
theorem dX4_save_66 : decode cX4_save 66 = .ok (.aload_n 0, 1) := by decide +kernel
theorem dX4_save_67 : decode cX4_save 67 = .ok (.getfield 33, 3) := by decide +kernel
theorem dX4_save_70 : decode cX4_save 70 = .ok (.imul, 1) := by decide +kernel
theorem dX4_save_71 : decode cX4_save 71 = .ok (.iload_n 1, 1) := by decide +kernel
theorem dX4_save_72 : decode cX4_save 72 = .ok (.iadd, 1) := by decide +kernel
theorem dX4_save_73 : decode cX4_save 73 = .ok (.aload_n 0, 1) := by decide +kernel
theorem dX4_save_74 : decode cX4_save 74 = .ok (.getfield 7, 3) := by decide +kernel
theorem dX4_save_77 : decode cX4_save 77 = .ok (.iload_n 1, 1) := by decide +kernel
theorem dX4_save_78 : decode cX4_save 78 = .ok (.iaload, 1) := by decide +kernel
theorem dX4_save_79 : decode cX4_save 79 = .ok (.iastore, 1) := by decide +kernel
theorem dX4_save_80 : decode cX4_save 80 = .ok (.iinc 1 1, 3) := by decide +kernel
theorem dX4_save_83 : decode cX4_save 83 = .ok (.goto (-31), 3) := by decide +kernel
theorem dX4_save_86 : decode cX4_save 86 = .ok (.aload_n 0, 1) := by decide +kernel
theorem dX4_save_87 : decode cX4_save 87 = .ok (.dup, 1) := by decide +kernel
theorem dX4_save_88 : decode cX4_save 88 = .ok (.getfield 33, 3) := by decide +kernel
theorem dX4_save_91 : decode cX4_save 91 = .ok (.iconst 1, 1) := by decide +kernel
theorem dX4_save_92 : decode cX4_save 92 = .ok (.iadd, 1) := by decide +kernel
theorem dX4_save_93 : decode cX4_save 93 = .ok (.putfield 33, 3) := by decide +kernel
theorem dX4_save_96 : decode cX4_save 96 = .ok (.return_, 1) := by decide +kernel
theorem dX4_keep_0 : decode cX4_keep 0 = .ok (.iconst 0, 1) := by decide +kernel
theorem dX4_keep_1 : decode cX4_keep 1 = .ok (.istore_n 1, 1) := by decide +kernel
theorem dX4_keep_2 : decode cX4_keep 2 = .ok (.iload_n 1, 1) := by decide +kernel
theorem dX4_keep_3 : decode cX4_keep 3 = .ok (.sipush 294, 3) := by decide +kernel
theorem dX4_keep_6 : decode cX4_keep 6 = .ok (.if_icmp .ge 21, 3) := by decide +kernel
theorem dX4_keep_9 : decode cX4_keep 9 = .ok (.aload_n 0, 1) := by decide +kernel
theorem dX4_keep_10 : decode cX4_keep 10 = .ok (.getfield 13, 3) := by decide +kernel
theorem dX4_keep_13 : decode cX4_keep 13 = .ok (.iload_n 1, 1) := by decide +kernel
theorem dX4_keep_14 : decode cX4_keep 14 = .ok (.aload_n 0, 1) := by decide +kernel
theorem dX4_keep_15 : decode cX4_keep 15 = .ok (.getfield 7, 3) := by decide +kernel
theorem dX4_keep_18 : decode cX4_keep 18 = .ok (.iload_n 1, 1) := by decide +kernel
theorem dX4_keep_19 : decode cX4_keep 19 = .ok (.iaload, 1) := by decide +kernel
theorem dX4_keep_20 : decode cX4_keep 20 = .ok (.iastore, 1) := by decide +kernel
theorem dX4_keep_21 : decode cX4_keep 21 = .ok (.iinc 1 1, 3) := by decide +kernel
theorem dX4_keep_24 : decode cX4_keep 24 = .ok (.goto (-22), 3) := by decide +kernel
theorem dX4_keep_27 : decode cX4_keep 27 = .ok (.return_, 1) := by decide +kernel
theorem dX4_bring_0 : decode cX4_bring 0 = .ok (.iconst 0, 1) := by decide +kernel
theorem dX4_bring_1 : decode cX4_bring 1 = .ok (.istore_n 1, 1) := by decide +kernel
theorem dX4_bring_2 : decode cX4_bring 2 = .ok (.iload_n 1, 1) := by decide +kernel
theorem dX4_bring_3 : decode cX4_bring 3 = .ok (.sipush 294, 3) := by decide +kernel
theorem dX4_bring_6 : decode cX4_bring 6 = .ok (.if_icmp .ge 21, 3) := by decide +kernel
theorem dX4_bring_9 : decode cX4_bring 9 = .ok (.aload_n 0, 1) := by decide +kernel
theorem dX4_bring_10 : decode cX4_bring 10 = .ok (.getfield 7, 3) := by decide +kernel
theorem dX4_bring_13 : decode cX4_bring 13 = .ok (.iload_n 1, 1) := by decide +kernel
theorem dX4_bring_14 : decode cX4_bring 14 = .ok (.aload_n 0, 1) := by decide +kernel
theorem dX4_bring_15 : decode cX4_bring 15 = .ok (.getfield 13, 3) := by decide +kernel
theorem dX4_bring_18 : decode cX4_bring 18 = .ok (.iload_n 1, 1) := by decide +kernel
theorem dX4_bring_19 : decode cX4_bring 19 = .ok (.iaload, 1) := by decide +kernel
theorem dX4_bring_20 : decode cX4_bring 20 = .ok (.iastore, 1) := by decide +kernel
theorem dX4_bring_21 : decode cX4_bring 21 = .ok (.iinc 1 1, 3) := by decide +kernel
theorem dX4_bring_24 : decode cX4_bring 24 = .ok (.goto (-22), 3) := by decide +kernel
theorem dX4_bring_27 : decode cX4_bring 27 = .ok (.return_, 1) := by decide +kernel
theorem dX4_placesOf_0 : decode cX4_placesOf 0 = .ok (.aload_n 0, 1) := by decide +kernel
theorem dX4_placesOf_1 : decode cX4_placesOf 1 = .ok (.getfield 7, 3) := by decide +kernel
theorem dX4_placesOf_4 : decode cX4_placesOf 4 = .ok (.iconst 1, 1) := by decide +kernel
theorem dX4_placesOf_5 : decode cX4_placesOf 5 = .ok (.iaload, 1) := by decide +kernel
theorem dX4_placesOf_6 : decode cX4_placesOf 6 = .ok (.iload_n 1, 1) := by decide +kernel
theorem dX4_placesOf_7 : decode cX4_placesOf 7 = .ok (.iconst 2, 1) := by decide +kernel
theorem dX4_placesOf_8 : decode cX4_placesOf 8 = .ok (.irem, 1) := by decide +kernel
theorem dX4_placesOf_9 : decode cX4_placesOf 9 = .ok (.ifCond .ne 7, 3) := by decide +kernel
theorem dX4_placesOf_12 : decode cX4_placesOf 12 = .ok (.iconst 0, 1) := by decide +kernel
theorem dX4_placesOf_13 : decode cX4_placesOf 13 = .ok (.goto 4, 3) := by decide +kernel
theorem dX4_placesOf_16 : decode cX4_placesOf 16 = .ok (.iconst 1, 1) := by decide +kernel
theorem dX4_placesOf_17 : decode cX4_placesOf 17 = .ok (.iadd, 1) := by decide +kernel
theorem dX4_placesOf_18 : decode cX4_placesOf 18 = .ok (.ireturn, 1) := by decide +kernel
theorem dX4_isThere_0 : decode cX4_isThere 0 = .ok (.aload_n 0, 1) := by decide +kernel
theorem dX4_isThere_1 : decode cX4_isThere 1 = .ok (.getfield 7, 3) := by decide +kernel
theorem dX4_isThere_4 : decode cX4_isThere 4 = .ok (.bipush 114, 2) := by decide +kernel
theorem dX4_isThere_6 : decode cX4_isThere 6 = .ok (.iload_n 1, 1) := by decide +kernel
theorem dX4_isThere_7 : decode cX4_isThere 7 = .ok (.iadd, 1) := by decide +kernel
theorem dX4_isThere_8 : decode cX4_isThere 8 = .ok (.iaload, 1) := by decide +kernel
theorem dX4_isThere_9 : decode cX4_isThere 9 = .ok (.iload_n 2, 1) := by decide +kernel
theorem dX4_isThere_10 : decode cX4_isThere 10 = .ok (.ishr, 1) := by decide +kernel
theorem dX4_isThere_11 : decode cX4_isThere 11 = .ok (.iconst 1, 1) := by decide +kernel
theorem dX4_isThere_12 : decode cX4_isThere 12 = .ok (.iand, 1) := by decide +kernel
theorem dX4_isThere_13 : decode cX4_isThere 13 = .ok (.iconst 1, 1) := by decide +kernel
theorem dX4_isThere_14 : decode cX4_isThere 14 = .ok (.if_icmp .ne 7, 3) := by decide +kernel
theorem dX4_isThere_17 : decode cX4_isThere 17 = .ok (.iconst 1, 1) := by decide +kernel
theorem dX4_isThere_18 : decode cX4_isThere 18 = .ok (.goto 4, 3) := by decide +kernel
theorem dX4_isThere_21 : decode cX4_isThere 21 = .ok (.iconst 0, 1) := by decide +kernel
theorem dX4_isThere_22 : decode cX4_isThere 22 = .ok (.ireturn, 1) := by decide +kernel
theorem dX4_liesIn_0 : decode cX4_liesIn 0 = .ok (.iconst 0, 1) := by decide +kernel
theorem dX4_liesIn_1 : decode cX4_liesIn 1 = .ok (.istore_n 2, 1) := by decide +kernel
theorem dX4_liesIn_2 : decode cX4_liesIn 2 = .ok (.iconst 0, 1) := by decide +kernel
theorem dX4_liesIn_3 : decode cX4_liesIn 3 = .ok (.istore_n 3, 1) := by decide +kernel
theorem dX4_liesIn_4 : decode cX4_liesIn 4 = .ok (.iload_n 3, 1) := by decide +kernel
theorem dX4_liesIn_5 : decode cX4_liesIn 5 = .ok (.aload_n 0, 1) := by decide +kernel
theorem dX4_liesIn_6 : decode cX4_liesIn 6 = .ok (.iload_n 1, 1) := by decide +kernel
theorem dX4_liesIn_7 : decode cX4_liesIn 7 = .ok (.invokevirtual 36, 3) := by decide +kernel
theorem dX4_liesIn_10 : decode cX4_liesIn 10 = .ok (.if_icmp .ge 26, 3) := by decide +kernel
theorem dX4_liesIn_13 : decode cX4_liesIn 13 = .ok (.iload_n 2, 1) := by decide +kernel
theorem dX4_liesIn_14 : decode cX4_liesIn 14 = .ok (.aload_n 0, 1) := by decide +kernel
theorem dX4_liesIn_15 : decode cX4_liesIn 15 = .ok (.iload_n 1, 1) := by decide +kernel
theorem dX4_liesIn_16 : decode cX4_liesIn 16 = .ok (.iload_n 3, 1) := by decide +kernel
theorem dX4_liesIn_17 : decode cX4_liesIn 17 = .ok (.invokevirtual 40, 3) := by decide +kernel
theorem dX4_liesIn_20 : decode cX4_liesIn 20 = .ok (.ifCond .eq 7, 3) := by decide +kernel
theorem dX4_liesIn_23 : decode cX4_liesIn 23 = .ok (.iconst 1, 1) := by decide +kernel
theorem dX4_liesIn_24 : decode cX4_liesIn 24 = .ok (.goto 4, 3) := by decide +kernel
theorem dX4_liesIn_27 : decode cX4_liesIn 27 = .ok (.iconst 0, 1) := by decide +kernel
theorem dX4_liesIn_28 : decode cX4_liesIn 28 = .ok (.iadd, 1) := by decide +kernel
theorem dX4_liesIn_29 : decode cX4_liesIn 29 = .ok (.istore_n 2, 1) := by decide +kernel
theorem dX4_liesIn_30 : decode cX4_liesIn 30 = .ok (.iinc 3 1, 3) := by decide +kernel
theorem dX4_liesIn_33 : decode cX4_liesIn 33 = .ok (.goto (-29), 3) := by decide +kernel
theorem dX4_liesIn_36 : decode cX4_liesIn 36 = .ok (.iload_n 2, 1) := by decide +kernel
theorem dX4_liesIn_37 : decode cX4_liesIn 37 = .ok (.ireturn, 1) := by decide +kernel
theorem dX4_firstGap_0 : decode cX4_firstGap 0 = .ok (.iconst 0, 1) := by decide +kernel
theorem dX4_firstGap_1 : decode cX4_firstGap 1 = .ok (.istore_n 2, 1) := by decide +kernel
theorem dX4_firstGap_2 : decode cX4_firstGap 2 = .ok (.iload_n 2, 1) := by decide +kernel
theorem dX4_firstGap_3 : decode cX4_firstGap 3 = .ok (.aload_n 0, 1) := by decide +kernel
theorem dX4_firstGap_4 : decode cX4_firstGap 4 = .ok (.iload_n 1, 1) := by decide +kernel
theorem dX4_firstGap_5 : decode cX4_firstGap 5 = .ok (.invokevirtual 36, 3) := by decide +kernel
theorem dX4_firstGap_8 : decode cX4_firstGap 8 = .ok (.if_icmp .ge 20, 3) := by decide +kernel
theorem dX4_firstGap_11 : decode cX4_firstGap 11 = .ok (.aload_n 0, 1) := by decide +kernel
theorem dX4_firstGap_12 : decode cX4_firstGap 12 = .ok (.iload_n 1, 1) := by decide +kernel
theorem dX4_firstGap_13 : decode cX4_firstGap 13 = .ok (.iload_n 2, 1) := by decide +kernel
theorem dX4_firstGap_14 : decode cX4_firstGap 14 = .ok (.invokevirtual 40, 3) := by decide +kernel
theorem dX4_firstGap_17 : decode cX4_firstGap 17 = .ok (.ifCond .ne 5, 3) := by decide +kernel
theorem dX4_firstGap_20 : decode cX4_firstGap 20 = .ok (.iload_n 2, 1) := by decide +kernel
theorem dX4_firstGap_21 : decode cX4_firstGap 21 = .ok (.ireturn, 1) := by decide +kernel
theorem dX4_firstGap_22 : decode cX4_firstGap 22 = .ok (.iinc 2 1, 3) := by decide +kernel
theorem dX4_firstGap_25 : decode cX4_firstGap 25 = .ok (.goto (-23), 3) := by decide +kernel
theorem dX4_firstGap_28 : decode cX4_firstGap 28 = .ok (.iconst (-1), 1) := by decide +kernel
theorem dX4_firstGap_29 : decode cX4_firstGap 29 = .ok (.ireturn, 1) := by decide +kernel
theorem dX4_lastGap_0 : decode cX4_lastGap 0 = .ok (.aload_n 0, 1) := by decide +kernel
theorem dX4_lastGap_1 : decode cX4_lastGap 1 = .ok (.iload_n 1, 1) := by decide +kernel
theorem dX4_lastGap_2 : decode cX4_lastGap 2 = .ok (.invokevirtual 36, 3) := by decide +kernel
theorem dX4_lastGap_5 : decode cX4_lastGap 5 = .ok (.iconst 1, 1) := by decide +kernel
theorem dX4_lastGap_6 : decode cX4_lastGap 6 = .ok (.isub, 1) := by decide +kernel
theorem dX4_lastGap_7 : decode cX4_lastGap 7 = .ok (.istore_n 2, 1) := by decide +kernel
theorem dX4_lastGap_8 : decode cX4_lastGap 8 = .ok (.iload_n 2, 1) := by decide +kernel
theorem dX4_lastGap_9 : decode cX4_lastGap 9 = .ok (.ifCond .lt 20, 3) := by decide +kernel
theorem dX4_lastGap_12 : decode cX4_lastGap 12 = .ok (.aload_n 0, 1) := by decide +kernel
theorem dX4_lastGap_13 : decode cX4_lastGap 13 = .ok (.iload_n 1, 1) := by decide +kernel
theorem dX4_lastGap_14 : decode cX4_lastGap 14 = .ok (.iload_n 2, 1) := by decide +kernel
theorem dX4_lastGap_15 : decode cX4_lastGap 15 = .ok (.invokevirtual 40, 3) := by decide +kernel
theorem dX4_lastGap_18 : decode cX4_lastGap 18 = .ok (.ifCond .ne 5, 3) := by decide +kernel
theorem dX4_lastGap_21 : decode cX4_lastGap 21 = .ok (.iload_n 2, 1) := by decide +kernel
theorem dX4_lastGap_22 : decode cX4_lastGap 22 = .ok (.ireturn, 1) := by decide +kernel
theorem dX4_lastGap_23 : decode cX4_lastGap 23 = .ok (.iinc 2 (-1), 3) := by decide +kernel
theorem dX4_lastGap_26 : decode cX4_lastGap 26 = .ok (.goto (-18), 3) := by decide +kernel
theorem dX4_lastGap_29 : decode cX4_lastGap 29 = .ok (.iconst (-1), 1) := by decide +kernel
theorem dX4_lastGap_30 : decode cX4_lastGap 30 = .ok (.ireturn, 1) := by decide +kernel
theorem dX4_gauge_0 : decode cX4_gauge 0 = .ok (.iload_n 1, 1) := by decide +kernel
theorem dX4_gauge_1 : decode cX4_gauge 1 = .ok (.aload_n 0, 1) := by decide +kernel
theorem dX4_gauge_2 : decode cX4_gauge 2 = .ok (.getfield 7, 3) := by decide +kernel
theorem dX4_gauge_5 : decode cX4_gauge 5 = .ok (.iconst 3, 1) := by decide +kernel
theorem dX4_gauge_6 : decode cX4_gauge 6 = .ok (.iaload, 1) := by decide +kernel
theorem dX4_gauge_7 : decode cX4_gauge 7 = .ok (.isub, 1) := by decide +kernel
theorem dX4_gauge_8 : decode cX4_gauge 8 = .ok (.iconst 2, 1) := by decide +kernel
theorem dX4_gauge_9 : decode cX4_gauge 9 = .ok (.idiv, 1) := by decide +kernel
theorem dX4_gauge_10 : decode cX4_gauge 10 = .ok (.ireturn, 1) := by decide +kernel
theorem dX4_topOf_0 : decode cX4_topOf 0 = .ok (.iconst 0, 1) := by decide +kernel
theorem dX4_topOf_1 : decode cX4_topOf 1 = .ok (.istore_n 2, 1) := by decide +kernel
theorem dX4_topOf_2 : decode cX4_topOf 2 = .ok (.iconst 0, 1) := by decide +kernel
theorem dX4_topOf_3 : decode cX4_topOf 3 = .ok (.istore_n 3, 1) := by decide +kernel
theorem dX4_topOf_4 : decode cX4_topOf 4 = .ok (.iload_n 3, 1) := by decide +kernel
theorem dX4_topOf_5 : decode cX4_topOf 5 = .ok (.iload_n 1, 1) := by decide +kernel
theorem dX4_topOf_6 : decode cX4_topOf 6 = .ok (.if_icmp .gt 25, 3) := by decide +kernel
theorem dX4_topOf_9 : decode cX4_topOf 9 = .ok (.iload_n 2, 1) := by decide +kernel
theorem dX4_topOf_10 : decode cX4_topOf 10 = .ok (.aload_n 0, 1) := by decide +kernel
theorem dX4_topOf_11 : decode cX4_topOf 11 = .ok (.aload_n 0, 1) := by decide +kernel
theorem dX4_topOf_12 : decode cX4_topOf 12 = .ok (.getfield 7, 3) := by decide +kernel
theorem dX4_topOf_15 : decode cX4_topOf 15 = .ok (.bipush 14, 2) := by decide +kernel
theorem dX4_topOf_17 : decode cX4_topOf 17 = .ok (.iload_n 3, 1) := by decide +kernel
theorem dX4_topOf_18 : decode cX4_topOf 18 = .ok (.iadd, 1) := by decide +kernel
theorem dX4_topOf_19 : decode cX4_topOf 19 = .ok (.iaload, 1) := by decide +kernel
theorem dX4_topOf_20 : decode cX4_topOf 20 = .ok (.invokevirtual 44, 3) := by decide +kernel
theorem dX4_topOf_23 : decode cX4_topOf 23 = .ok (.iadd, 1) := by decide +kernel
theorem dX4_topOf_24 : decode cX4_topOf 24 = .ok (.istore_n 2, 1) := by decide +kernel
theorem dX4_topOf_25 : decode cX4_topOf 25 = .ok (.iinc 3 1, 3) := by decide +kernel
theorem dX4_topOf_28 : decode cX4_topOf 28 = .ok (.goto (-24), 3) := by decide +kernel
theorem dX4_topOf_31 : decode cX4_topOf 31 = .ok (.iload_n 2, 1) := by decide +kernel
theorem dX4_topOf_32 : decode cX4_topOf 32 = .ok (.ireturn, 1) := by decide +kernel
theorem dX4_top_0 : decode cX4_top 0 = .ok (.aload_n 0, 1) := by decide +kernel
theorem dX4_top_1 : decode cX4_top 1 = .ok (.aload_n 0, 1) := by decide +kernel
theorem dX4_top_2 : decode cX4_top 2 = .ok (.getfield 7, 3) := by decide +kernel
theorem dX4_top_5 : decode cX4_top 5 = .ok (.iconst 2, 1) := by decide +kernel
theorem dX4_top_6 : decode cX4_top 6 = .ok (.iaload, 1) := by decide +kernel
theorem dX4_top_7 : decode cX4_top 7 = .ok (.iconst 1, 1) := by decide +kernel
theorem dX4_top_8 : decode cX4_top 8 = .ok (.isub, 1) := by decide +kernel
theorem dX4_top_9 : decode cX4_top 9 = .ok (.invokevirtual 47, 3) := by decide +kernel
theorem dX4_top_12 : decode cX4_top 12 = .ok (.ireturn, 1) := by decide +kernel
theorem dX4_onRoof_0 : decode cX4_onRoof 0 = .ok (.iconst 0, 1) := by decide +kernel
theorem dX4_onRoof_1 : decode cX4_onRoof 1 = .ok (.istore_n 1, 1) := by decide +kernel
theorem dX4_onRoof_2 : decode cX4_onRoof 2 = .ok (.iconst 0, 1) := by decide +kernel
theorem dX4_onRoof_3 : decode cX4_onRoof 3 = .ok (.istore_n 2, 1) := by decide +kernel
theorem dX4_onRoof_4 : decode cX4_onRoof 4 = .ok (.iload_n 2, 1) := by decide +kernel
theorem dX4_onRoof_5 : decode cX4_onRoof 5 = .ok (.aload_n 0, 1) := by decide +kernel
theorem dX4_onRoof_6 : decode cX4_onRoof 6 = .ok (.getfield 7, 3) := by decide +kernel
theorem dX4_onRoof_9 : decode cX4_onRoof 9 = .ok (.iconst 2, 1) := by decide +kernel
theorem dX4_onRoof_10 : decode cX4_onRoof 10 = .ok (.iaload, 1) := by decide +kernel
theorem dX4_onRoof_11 : decode cX4_onRoof 11 = .ok (.if_icmp .ge 17, 3) := by decide +kernel
theorem dX4_onRoof_14 : decode cX4_onRoof 14 = .ok (.iload_n 1, 1) := by decide +kernel
theorem dX4_onRoof_15 : decode cX4_onRoof 15 = .ok (.aload_n 0, 1) := by decide +kernel
theorem dX4_onRoof_16 : decode cX4_onRoof 16 = .ok (.iload_n 2, 1) := by decide +kernel
theorem dX4_onRoof_17 : decode cX4_onRoof 17 = .ok (.invokevirtual 50, 3) := by decide +kernel
theorem dX4_onRoof_20 : decode cX4_onRoof 20 = .ok (.iadd, 1) := by decide +kernel
theorem dX4_onRoof_21 : decode cX4_onRoof 21 = .ok (.istore_n 1, 1) := by decide +kernel
theorem dX4_onRoof_22 : decode cX4_onRoof 22 = .ok (.iinc 2 1, 3) := by decide +kernel
theorem dX4_onRoof_25 : decode cX4_onRoof 25 = .ok (.goto (-21), 3) := by decide +kernel
theorem dX4_onRoof_28 : decode cX4_onRoof 28 = .ok (.iload_n 1, 1) := by decide +kernel
theorem dX4_onRoof_29 : decode cX4_onRoof 29 = .ok (.ireturn, 1) := by decide +kernel
theorem dX4_gaps_0 : decode cX4_gaps 0 = .ok (.iconst 0, 1) := by decide +kernel
theorem dX4_gaps_1 : decode cX4_gaps 1 = .ok (.istore_n 1, 1) := by decide +kernel
theorem dX4_gaps_2 : decode cX4_gaps 2 = .ok (.iconst 0, 1) := by decide +kernel
theorem dX4_gaps_3 : decode cX4_gaps 3 = .ok (.istore_n 2, 1) := by decide +kernel
theorem dX4_gaps_4 : decode cX4_gaps 4 = .ok (.iload_n 2, 1) := by decide +kernel
theorem dX4_gaps_5 : decode cX4_gaps 5 = .ok (.aload_n 0, 1) := by decide +kernel
theorem dX4_gaps_6 : decode cX4_gaps 6 = .ok (.getfield 7, 3) := by decide +kernel
theorem dX4_gaps_9 : decode cX4_gaps 9 = .ok (.iconst 2, 1) := by decide +kernel
theorem dX4_gaps_10 : decode cX4_gaps 10 = .ok (.iaload, 1) := by decide +kernel
theorem dX4_gaps_11 : decode cX4_gaps 11 = .ok (.if_icmp .ge 23, 3) := by decide +kernel
theorem dX4_gaps_14 : decode cX4_gaps 14 = .ok (.iload_n 1, 1) := by decide +kernel
theorem dX4_gaps_15 : decode cX4_gaps 15 = .ok (.aload_n 0, 1) := by decide +kernel
theorem dX4_gaps_16 : decode cX4_gaps 16 = .ok (.iload_n 2, 1) := by decide +kernel
theorem dX4_gaps_17 : decode cX4_gaps 17 = .ok (.invokevirtual 36, 3) := by decide +kernel
theorem dX4_gaps_20 : decode cX4_gaps 20 = .ok (.aload_n 0, 1) := by decide +kernel
theorem dX4_gaps_21 : decode cX4_gaps 21 = .ok (.iload_n 2, 1) := by decide +kernel
theorem dX4_gaps_22 : decode cX4_gaps 22 = .ok (.invokevirtual 50, 3) := by decide +kernel
theorem dX4_gaps_25 : decode cX4_gaps 25 = .ok (.isub, 1) := by decide +kernel
theorem dX4_gaps_26 : decode cX4_gaps 26 = .ok (.iadd, 1) := by decide +kernel
theorem dX4_gaps_27 : decode cX4_gaps 27 = .ok (.istore_n 1, 1) := by decide +kernel
theorem dX4_gaps_28 : decode cX4_gaps 28 = .ok (.iinc 2 1, 3) := by decide +kernel
theorem dX4_gaps_31 : decode cX4_gaps 31 = .ok (.goto (-27), 3) := by decide +kernel
theorem dX4_gaps_34 : decode cX4_gaps 34 = .ok (.iload_n 1, 1) := by decide +kernel
theorem dX4_gaps_35 : decode cX4_gaps 35 = .ok (.ireturn, 1) := by decide +kernel
theorem dX4_isDone_0 : decode cX4_isDone 0 = .ok (.aload_n 0, 1) := by decide +kernel
theorem dX4_isDone_1 : decode cX4_isDone 1 = .ok (.getfield 7, 3) := by decide +kernel
theorem dX4_isDone_4 : decode cX4_isDone 4 = .ok (.iconst 2, 1) := by decide +kernel
theorem dX4_isDone_5 : decode cX4_isDone 5 = .ok (.iaload, 1) := by decide +kernel
theorem dX4_isDone_6 : decode cX4_isDone 6 = .ok (.ifCond .le 27, 3) := by decide +kernel
theorem dX4_isDone_9 : decode cX4_isDone 9 = .ok (.aload_n 0, 1) := by decide +kernel
theorem dX4_isDone_10 : decode cX4_isDone 10 = .ok (.invokevirtual 53, 3) := by decide +kernel
theorem dX4_isDone_13 : decode cX4_isDone 13 = .ok (.aload_n 0, 1) := by decide +kernel
theorem dX4_isDone_14 : decode cX4_isDone 14 = .ok (.getfield 7, 3) := by decide +kernel
theorem dX4_isDone_17 : decode cX4_isDone 17 = .ok (.iconst 0, 1) := by decide +kernel
theorem dX4_isDone_18 : decode cX4_isDone 18 = .ok (.iaload, 1) := by decide +kernel
theorem dX4_isDone_19 : decode cX4_isDone 19 = .ok (.if_icmp .lt 14, 3) := by decide +kernel
theorem dX4_isDone_22 : decode cX4_isDone 22 = .ok (.aload_n 0, 1) := by decide +kernel
theorem dX4_isDone_23 : decode cX4_isDone 23 = .ok (.invokevirtual 57, 3) := by decide +kernel
theorem dX4_isDone_26 : decode cX4_isDone 26 = .ok (.ifCond .ne 7, 3) := by decide +kernel
theorem dX4_isDone_29 : decode cX4_isDone 29 = .ok (.iconst 1, 1) := by decide +kernel
theorem dX4_isDone_30 : decode cX4_isDone 30 = .ok (.goto 4, 3) := by decide +kernel
theorem dX4_isDone_33 : decode cX4_isDone 33 = .ok (.iconst 0, 1) := by decide +kernel
theorem dX4_isDone_34 : decode cX4_isDone 34 = .ok (.ireturn, 1) := by decide +kernel
theorem dX4_price_0 : decode cX4_price 0 = .ok (.iload_n 0, 1) := by decide +kernel
theorem dX4_price_1 : decode cX4_price 1 = .ok (.iload_n 0, 1) := by decide +kernel
theorem dX4_price_2 : decode cX4_price 2 = .ok (.imul, 1) := by decide +kernel
theorem dX4_price_3 : decode cX4_price 3 = .ok (.bipush 16, 2) := by decide +kernel
theorem dX4_price_5 : decode cX4_price 5 = .ok (.idiv, 1) := by decide +kernel
theorem dX4_price_6 : decode cX4_price 6 = .ok (.ireturn, 1) := by decide +kernel
theorem dX4_longest_0 : decode cX4_longest 0 = .ok (.aload_n 0, 1) := by decide +kernel
theorem dX4_longest_1 : decode cX4_longest 1 = .ok (.getfield 7, 3) := by decide +kernel
theorem dX4_longest_4 : decode cX4_longest 4 = .ok (.iconst 2, 1) := by decide +kernel
theorem dX4_longest_5 : decode cX4_longest 5 = .ok (.iaload, 1) := by decide +kernel
theorem dX4_longest_6 : decode cX4_longest 6 = .ok (.ifCond .ne 8, 3) := by decide +kernel
theorem dX4_longest_9 : decode cX4_longest 9 = .ok (.bipush 24, 2) := by decide +kernel
theorem dX4_longest_11 : decode cX4_longest 11 = .ok (.goto 19, 3) := by decide +kernel
theorem dX4_longest_14 : decode cX4_longest 14 = .ok (.aload_n 0, 1) := by decide +kernel
theorem dX4_longest_15 : decode cX4_longest 15 = .ok (.getfield 7, 3) := by decide +kernel
theorem dX4_longest_18 : decode cX4_longest 18 = .ok (.bipush 14, 2) := by decide +kernel
theorem dX4_longest_20 : decode cX4_longest 20 = .ok (.aload_n 0, 1) := by decide +kernel
theorem dX4_longest_21 : decode cX4_longest 21 = .ok (.getfield 7, 3) := by decide +kernel
theorem dX4_longest_24 : decode cX4_longest 24 = .ok (.iconst 2, 1) := by decide +kernel
theorem dX4_longest_25 : decode cX4_longest 25 = .ok (.iaload, 1) := by decide +kernel
theorem dX4_longest_26 : decode cX4_longest 26 = .ok (.iadd, 1) := by decide +kernel
theorem dX4_longest_27 : decode cX4_longest 27 = .ok (.iconst 1, 1) := by decide +kernel
theorem dX4_longest_28 : decode cX4_longest 28 = .ok (.isub, 1) := by decide +kernel
theorem dX4_longest_29 : decode cX4_longest 29 = .ok (.iaload, 1) := by decide +kernel
theorem dX4_longest_30 : decode cX4_longest 30 = .ok (.ireturn, 1) := by decide +kernel
theorem dX4_isDry_0 : decode cX4_isDry 0 = .ok (.aload_n 0, 1) := by decide +kernel
theorem dX4_isDry_1 : decode cX4_isDry 1 = .ok (.getfield 7, 3) := by decide +kernel
theorem dX4_isDry_4 : decode cX4_isDry 4 = .ok (.bipush 9, 2) := by decide +kernel
theorem dX4_isDry_6 : decode cX4_isDry 6 = .ok (.iaload, 1) := by decide +kernel
theorem dX4_isDry_7 : decode cX4_isDry 7 = .ok (.ifCond .ne 17, 3) := by decide +kernel
theorem dX4_isDry_10 : decode cX4_isDry 10 = .ok (.aload_n 0, 1) := by decide +kernel
theorem dX4_isDry_11 : decode cX4_isDry 11 = .ok (.getfield 7, 3) := by decide +kernel
theorem dX4_isDry_14 : decode cX4_isDry 14 = .ok (.bipush 8, 2) := by decide +kernel
theorem dX4_isDry_16 : decode cX4_isDry 16 = .ok (.iaload, 1) := by decide +kernel
theorem dX4_isDry_17 : decode cX4_isDry 17 = .ok (.ifCond .ne 7, 3) := by decide +kernel
theorem dX4_isDry_20 : decode cX4_isDry 20 = .ok (.iconst 1, 1) := by decide +kernel
theorem dX4_isDry_21 : decode cX4_isDry 21 = .ok (.goto 4, 3) := by decide +kernel
theorem dX4_isDry_24 : decode cX4_isDry 24 = .ok (.iconst 0, 1) := by decide +kernel
theorem dX4_isDry_25 : decode cX4_isDry 25 = .ok (.ireturn, 1) := by decide +kernel
theorem dX4_begin_0 : decode cX4_begin 0 = .ok (.aload_n 0, 1) := by decide +kernel
theorem dX4_begin_1 : decode cX4_begin 1 = .ok (.iconst 0, 1) := by decide +kernel
theorem dX4_begin_2 : decode cX4_begin 2 = .ok (.putfield 25, 3) := by decide +kernel
theorem dX4_begin_5 : decode cX4_begin 5 = .ok (.iload_n 1, 1) := by decide +kernel
theorem dX4_begin_6 : decode cX4_begin 6 = .ok (.bipush 20, 2) := by decide +kernel
theorem dX4_begin_8 : decode cX4_begin 8 = .ok (.sipush 400, 3) := by decide +kernel
theorem dX4_begin_11 : decode cX4_begin 11 = .ok (.invokestatic 29, 3) := by decide +kernel
theorem dX4_begin_14 : decode cX4_begin 14 = .ok (.ifCond .eq 13, 3) := by decide +kernel
theorem dX4_begin_17 : decode cX4_begin 17 = .ok (.iload_n 2, 1) := by decide +kernel
theorem dX4_begin_18 : decode cX4_begin 18 = .ok (.iconst 2, 1) := by decide +kernel
theorem dX4_begin_19 : decode cX4_begin 19 = .ok (.bipush 30, 2) := by decide +kernel
theorem dX4_begin_21 : decode cX4_begin 21 = .ok (.invokestatic 29, 3) := by decide +kernel
theorem dX4_begin_24 : decode cX4_begin 24 = .ok (.ifCond .ne 9, 3) := by decide +kernel
theorem dX4_begin_27 : decode cX4_begin 27 = .ok (.aload_n 0, 1) := by decide +kernel
theorem dX4_begin_28 : decode cX4_begin 28 = .ok (.iconst 1, 1) := by decide +kernel
theorem dX4_begin_29 : decode cX4_begin 29 = .ok (.invokevirtual 60, 3) := by decide +kernel
theorem dX4_begin_32 : decode cX4_begin 32 = .ok (.ireturn, 1) := by decide +kernel
theorem dX4_begin_33 : decode cX4_begin 33 = .ok (.aload_n 0, 1) := by decide +kernel
theorem dX4_begin_34 : decode cX4_begin 34 = .ok (.invokevirtual 63, 3) := by decide +kernel
theorem dX4_begin_37 : decode cX4_begin 37 = .ok (.aload_n 0, 1) := by decide +kernel
theorem dX4_begin_38 : decode cX4_begin 38 = .ok (.invokevirtual 66, 3) := by decide +kernel
theorem dX4_begin_41 : decode cX4_begin 41 = .ok (.istore_n 3, 1) := by decide +kernel
theorem dX4_begin_42 : decode cX4_begin 42 = .ok (.aload_n 0, 1) := by decide +kernel
theorem dX4_begin_43 : decode cX4_begin 43 = .ok (.getfield 7, 3) := by decide +kernel
theorem dX4_begin_46 : decode cX4_begin 46 = .ok (.bipush 12, 2) := by decide +kernel
theorem dX4_begin_48 : decode cX4_begin 48 = .ok (.dup2, 1) := by decide +kernel
theorem dX4_begin_49 : decode cX4_begin 49 = .ok (.iaload, 1) := by decide +kernel
theorem dX4_begin_50 : decode cX4_begin 50 = .ok (.iload_n 3, 1) := by decide +kernel
theorem dX4_begin_51 : decode cX4_begin 51 = .ok (.iadd, 1) := by decide +kernel
theorem dX4_begin_52 : decode cX4_begin 52 = .ok (.iastore, 1) := by decide +kernel
theorem dX4_begin_53 : decode cX4_begin 53 = .ok (.aload_n 0, 1) := by decide +kernel
theorem dX4_begin_54 : decode cX4_begin 54 = .ok (.getfield 7, 3) := by decide +kernel
theorem dX4_begin_57 : decode cX4_begin 57 = .ok (.iconst 2, 1) := by decide +kernel
theorem dX4_begin_58 : decode cX4_begin 58 = .ok (.iconst 0, 1) := by decide +kernel
theorem dX4_begin_59 : decode cX4_begin 59 = .ok (.iastore, 1) := by decide +kernel
theorem dX4_begin_60 : decode cX4_begin 60 = .ok (.aload_n 0, 1) := by decide +kernel
theorem dX4_begin_61 : decode cX4_begin 61 = .ok (.getfield 7, 3) := by decide +kernel
theorem dX4_begin_64 : decode cX4_begin 64 = .ok (.iconst 0, 1) := by decide +kernel
theorem dX4_begin_65 : decode cX4_begin 65 = .ok (.iload_n 1, 1) := by decide +kernel
theorem dX4_begin_66 : decode cX4_begin 66 = .ok (.iastore, 1) := by decide +kernel
theorem dX4_begin_67 : decode cX4_begin 67 = .ok (.aload_n 0, 1) := by decide +kernel
theorem dX4_begin_68 : decode cX4_begin 68 = .ok (.getfield 7, 3) := by decide +kernel
theorem dX4_begin_71 : decode cX4_begin 71 = .ok (.iconst 1, 1) := by decide +kernel
theorem dX4_begin_72 : decode cX4_begin 72 = .ok (.iload_n 2, 1) := by decide +kernel
theorem dX4_begin_73 : decode cX4_begin 73 = .ok (.iastore, 1) := by decide +kernel
theorem dX4_begin_74 : decode cX4_begin 74 = .ok (.iload_n 3, 1) := by decide +kernel
theorem dX4_begin_75 : decode cX4_begin 75 = .ok (.ireturn, 1) := by decide +kernel
theorem dX4_set_0 : decode cX4_set 0 = .ok (.aload_n 0, 1) := by decide +kernel
theorem dX4_set_1 : decode cX4_set 1 = .ok (.iconst 0, 1) := by decide +kernel
theorem dX4_set_2 : decode cX4_set 2 = .ok (.putfield 25, 3) := by decide +kernel
theorem dX4_set_5 : decode cX4_set 5 = .ok (.iload_n 1, 1) := by decide +kernel
theorem dX4_set_6 : decode cX4_set 6 = .ok (.iconst 0, 1) := by decide +kernel
theorem dX4_set_7 : decode cX4_set 7 = .ok (.iconst 2, 1) := by decide +kernel
theorem dX4_set_8 : decode cX4_set 8 = .ok (.invokestatic 29, 3) := by decide +kernel
theorem dX4_set_11 : decode cX4_set 11 = .ok (.ifCond .ne 9, 3) := by decide +kernel
theorem dX4_set_14 : decode cX4_set 14 = .ok (.aload_n 0, 1) := by decide +kernel
theorem dX4_set_15 : decode cX4_set 15 = .ok (.iconst 1, 1) := by decide +kernel
theorem dX4_set_16 : decode cX4_set 16 = .ok (.invokevirtual 60, 3) := by decide +kernel
theorem dX4_set_19 : decode cX4_set 19 = .ok (.ireturn, 1) := by decide +kernel
theorem dX4_set_20 : decode cX4_set 20 = .ok (.iload_n 1, 1) := by decide +kernel
theorem dX4_set_21 : decode cX4_set 21 = .ok (.ifCond .ne 13, 3) := by decide +kernel
theorem dX4_set_24 : decode cX4_set 24 = .ok (.iload_n 2, 1) := by decide +kernel
theorem dX4_set_25 : decode cX4_set 25 = .ok (.iconst 2, 1) := by decide +kernel
theorem dX4_set_26 : decode cX4_set 26 = .ok (.bipush 6, 2) := by decide +kernel
theorem dX4_set_28 : decode cX4_set 28 = .ok (.invokestatic 29, 3) := by decide +kernel
theorem dX4_set_31 : decode cX4_set 31 = .ok (.goto 24, 3) := by decide +kernel
theorem dX4_set_34 : decode cX4_set 34 = .ok (.iload_n 1, 1) := by decide +kernel
theorem dX4_set_35 : decode cX4_set 35 = .ok (.iconst 1, 1) := by decide +kernel
theorem dX4_set_36 : decode cX4_set 36 = .ok (.if_icmp .ne 13, 3) := by decide +kernel
theorem dX4_set_39 : decode cX4_set 39 = .ok (.iload_n 2, 1) := by decide +kernel
theorem dX4_set_40 : decode cX4_set 40 = .ok (.iconst 1, 1) := by decide +kernel
theorem dX4_set_41 : decode cX4_set 41 = .ok (.bipush 60, 2) := by decide +kernel
theorem dX4_set_43 : decode cX4_set 43 = .ok (.invokestatic 29, 3) := by decide +kernel
theorem dX4_set_46 : decode cX4_set 46 = .ok (.goto 9, 3) := by decide +kernel
theorem dX4_set_49 : decode cX4_set 49 = .ok (.iload_n 2, 1) := by decide +kernel
theorem dX4_set_50 : decode cX4_set 50 = .ok (.iconst 1, 1) := by decide +kernel
theorem dX4_set_51 : decode cX4_set 51 = .ok (.iconst 5, 1) := by decide +kernel
theorem dX4_set_52 : decode cX4_set 52 = .ok (.invokestatic 29, 3) := by decide +kernel
theorem dX4_set_55 : decode cX4_set 55 = .ok (.istore_n 3, 1) := by decide +kernel
theorem dX4_set_56 : decode cX4_set 56 = .ok (.iload_n 3, 1) := by decide +kernel
theorem dX4_set_57 : decode cX4_set 57 = .ok (.ifCond .ne 9, 3) := by decide +kernel
theorem dX4_set_60 : decode cX4_set 60 = .ok (.aload_n 0, 1) := by decide +kernel
theorem dX4_set_61 : decode cX4_set 61 = .ok (.iconst 2, 1) := by decide +kernel
theorem dX4_set_62 : decode cX4_set 62 = .ok (.invokevirtual 60, 3) := by decide +kernel
theorem dX4_set_65 : decode cX4_set 65 = .ok (.ireturn, 1) := by decide +kernel
theorem dX4_set_66 : decode cX4_set 66 = .ok (.aload_n 0, 1) := by decide +kernel
theorem dX4_set_67 : decode cX4_set 67 = .ok (.invokevirtual 63, 3) := by decide +kernel
theorem dX4_set_70 : decode cX4_set 70 = .ok (.aload_n 0, 1) := by decide +kernel
theorem dX4_set_71 : decode cX4_set 71 = .ok (.getfield 7, 3) := by decide +kernel
theorem dX4_set_74 : decode cX4_set 74 = .ok (.iconst 3, 1) := by decide +kernel
theorem dX4_set_75 : decode cX4_set 75 = .ok (.iload_n 1, 1) := by decide +kernel
theorem dX4_set_76 : decode cX4_set 76 = .ok (.iadd, 1) := by decide +kernel
theorem dX4_set_77 : decode cX4_set 77 = .ok (.iaload, 1) := by decide +kernel
theorem dX4_set_78 : decode cX4_set 78 = .ok (.istore 4, 2) := by decide +kernel
theorem dX4_set_80 : decode cX4_set 80 = .ok (.aload_n 0, 1) := by decide +kernel
theorem dX4_set_81 : decode cX4_set 81 = .ok (.getfield 7, 3) := by decide +kernel
theorem dX4_set_84 : decode cX4_set 84 = .ok (.iconst 3, 1) := by decide +kernel
theorem dX4_set_85 : decode cX4_set 85 = .ok (.iload_n 1, 1) := by decide +kernel
theorem dX4_set_86 : decode cX4_set 86 = .ok (.iadd, 1) := by decide +kernel
theorem dX4_set_87 : decode cX4_set 87 = .ok (.iload_n 2, 1) := by decide +kernel
theorem dX4_set_88 : decode cX4_set 88 = .ok (.iastore, 1) := by decide +kernel
theorem dX4_set_89 : decode cX4_set 89 = .ok (.iload 4, 2) := by decide +kernel
theorem dX4_set_91 : decode cX4_set 91 = .ok (.ireturn, 1) := by decide +kernel
theorem dX4_sum_0 : decode cX4_sum 0 = .ok (.iconst 0, 1) := by decide +kernel
theorem dX4_sum_1 : decode cX4_sum 1 = .ok (.istore_n 2, 1) := by decide +kernel
theorem dX4_sum_2 : decode cX4_sum 2 = .ok (.bipush 8, 2) := by decide +kernel
theorem dX4_sum_4 : decode cX4_sum 4 = .ok (.istore_n 3, 1) := by decide +kernel
theorem dX4_sum_5 : decode cX4_sum 5 = .ok (.iload_n 3, 1) := by decide +kernel
theorem dX4_sum_6 : decode cX4_sum 6 = .ok (.bipush 24, 2) := by decide +kernel
theorem dX4_sum_8 : decode cX4_sum 8 = .ok (.if_icmp .gt 20, 3) := by decide +kernel
theorem dX4_sum_11 : decode cX4_sum 11 = .ok (.iload_n 2, 1) := by decide +kernel
theorem dX4_sum_12 : decode cX4_sum 12 = .ok (.aload_n 0, 1) := by decide +kernel
theorem dX4_sum_13 : decode cX4_sum 13 = .ok (.getfield 7, 3) := by decide +kernel
theorem dX4_sum_16 : decode cX4_sum 16 = .ok (.iload_n 1, 1) := by decide +kernel
theorem dX4_sum_17 : decode cX4_sum 17 = .ok (.iload_n 3, 1) := by decide +kernel
theorem dX4_sum_18 : decode cX4_sum 18 = .ok (.iadd, 1) := by decide +kernel
theorem dX4_sum_19 : decode cX4_sum 19 = .ok (.iaload, 1) := by decide +kernel
theorem dX4_sum_20 : decode cX4_sum 20 = .ok (.iadd, 1) := by decide +kernel
theorem dX4_sum_21 : decode cX4_sum 21 = .ok (.istore_n 2, 1) := by decide +kernel
theorem dX4_sum_22 : decode cX4_sum 22 = .ok (.iinc 3 1, 3) := by decide +kernel
theorem dX4_sum_25 : decode cX4_sum 25 = .ok (.goto (-20), 3) := by decide +kernel
theorem dX4_sum_28 : decode cX4_sum 28 = .ok (.iload_n 2, 1) := by decide +kernel
theorem dX4_sum_29 : decode cX4_sum 29 = .ok (.ireturn, 1) := by decide +kernel
theorem dX4_buy_0 : decode cX4_buy 0 = .ok (.aload_n 0, 1) := by decide +kernel
theorem dX4_buy_1 : decode cX4_buy 1 = .ok (.iconst 0, 1) := by decide +kernel
theorem dX4_buy_2 : decode cX4_buy 2 = .ok (.putfield 25, 3) := by decide +kernel
theorem dX4_buy_5 : decode cX4_buy 5 = .ok (.iload_n 1, 1) := by decide +kernel
theorem dX4_buy_6 : decode cX4_buy 6 = .ok (.invokestatic 69, 3) := by decide +kernel
theorem dX4_buy_9 : decode cX4_buy 9 = .ok (.ifCond .eq 14, 3) := by decide +kernel
theorem dX4_buy_12 : decode cX4_buy 12 = .ok (.iload_n 2, 1) := by decide +kernel
theorem dX4_buy_13 : decode cX4_buy 13 = .ok (.iconst 1, 1) := by decide +kernel
theorem dX4_buy_14 : decode cX4_buy 14 = .ok (.sipush 200, 3) := by decide +kernel
theorem dX4_buy_17 : decode cX4_buy 17 = .ok (.invokestatic 29, 3) := by decide +kernel
theorem dX4_buy_20 : decode cX4_buy 20 = .ok (.ifCond .ne 9, 3) := by decide +kernel
theorem dX4_buy_23 : decode cX4_buy 23 = .ok (.aload_n 0, 1) := by decide +kernel
theorem dX4_buy_24 : decode cX4_buy 24 = .ok (.iconst 1, 1) := by decide +kernel
theorem dX4_buy_25 : decode cX4_buy 25 = .ok (.invokevirtual 60, 3) := by decide +kernel
theorem dX4_buy_28 : decode cX4_buy 28 = .ok (.ireturn, 1) := by decide +kernel
theorem dX4_buy_29 : decode cX4_buy 29 = .ok (.aload_n 0, 1) := by decide +kernel
theorem dX4_buy_30 : decode cX4_buy 30 = .ok (.sipush 264, 3) := by decide +kernel
theorem dX4_buy_33 : decode cX4_buy 33 = .ok (.invokevirtual 73, 3) := by decide +kernel
theorem dX4_buy_36 : decode cX4_buy 36 = .ok (.iload_n 2, 1) := by decide +kernel
theorem dX4_buy_37 : decode cX4_buy 37 = .ok (.iadd, 1) := by decide +kernel
theorem dX4_buy_38 : decode cX4_buy 38 = .ok (.sipush 5000, 3) := by decide +kernel
theorem dX4_buy_41 : decode cX4_buy 41 = .ok (.if_icmp .le 9, 3) := by decide +kernel
theorem dX4_buy_44 : decode cX4_buy 44 = .ok (.aload_n 0, 1) := by decide +kernel
theorem dX4_buy_45 : decode cX4_buy 45 = .ok (.iconst 2, 1) := by decide +kernel
theorem dX4_buy_46 : decode cX4_buy 46 = .ok (.invokevirtual 60, 3) := by decide +kernel
theorem dX4_buy_49 : decode cX4_buy 49 = .ok (.ireturn, 1) := by decide +kernel
theorem dX4_buy_50 : decode cX4_buy 50 = .ok (.aload_n 0, 1) := by decide +kernel
theorem dX4_buy_51 : decode cX4_buy 51 = .ok (.invokevirtual 63, 3) := by decide +kernel
theorem dX4_buy_54 : decode cX4_buy 54 = .ok (.iload_n 3, 1) := by decide +kernel
theorem dX4_buy_55 : decode cX4_buy 55 = .ok (.istore 4, 2) := by decide +kernel
theorem dX4_buy_57 : decode cX4_buy 57 = .ok (.iconst 0, 1) := by decide +kernel
theorem dX4_buy_58 : decode cX4_buy 58 = .ok (.istore 5, 2) := by decide +kernel
theorem dX4_buy_60 : decode cX4_buy 60 = .ok (.iconst 0, 1) := by decide +kernel
theorem dX4_buy_61 : decode cX4_buy 61 = .ok (.istore 6, 2) := by decide +kernel
theorem dX4_buy_63 : decode cX4_buy 63 = .ok (.iload 6, 2) := by decide +kernel
theorem dX4_buy_65 : decode cX4_buy 65 = .ok (.iload_n 2, 1) := by decide +kernel
theorem dX4_buy_66 : decode cX4_buy 66 = .ok (.if_icmp .ge 45, 3) := by decide +kernel
theorem dX4_buy_69 : decode cX4_buy 69 = .ok (.iload 4, 2) := by decide +kernel
theorem dX4_buy_71 : decode cX4_buy 71 = .ok (.ldc 76, 2) := by decide +kernel
theorem dX4_buy_73 : decode cX4_buy 73 = .ok (.imul, 1) := by decide +kernel
theorem dX4_buy_74 : decode cX4_buy 74 = .ok (.sipush 12345, 3) := by decide +kernel
theorem dX4_buy_77 : decode cX4_buy 77 = .ok (.iadd, 1) := by decide +kernel
theorem dX4_buy_78 : decode cX4_buy 78 = .ok (.istore 4, 2) := by decide +kernel
theorem dX4_buy_80 : decode cX4_buy 80 = .ok (.iload 5, 2) := by decide +kernel
theorem dX4_buy_82 : decode cX4_buy 82 = .ok (.iload 4, 2) := by decide +kernel
theorem dX4_buy_84 : decode cX4_buy 84 = .ok (.bipush 16, 2) := by decide +kernel
theorem dX4_buy_86 : decode cX4_buy 86 = .ok (.ishr, 1) := by decide +kernel
theorem dX4_buy_87 : decode cX4_buy 87 = .ok (.sipush 32767, 3) := by decide +kernel
theorem dX4_buy_90 : decode cX4_buy 90 = .ok (.iand, 1) := by decide +kernel
theorem dX4_buy_91 : decode cX4_buy 91 = .ok (.bipush 10, 2) := by decide +kernel
theorem dX4_buy_93 : decode cX4_buy 93 = .ok (.irem, 1) := by decide +kernel
theorem dX4_buy_94 : decode cX4_buy 94 = .ok (.ifCond .ne 7, 3) := by decide +kernel
theorem dX4_buy_97 : decode cX4_buy 97 = .ok (.iconst 1, 1) := by decide +kernel
theorem dX4_buy_98 : decode cX4_buy 98 = .ok (.goto 4, 3) := by decide +kernel
theorem dX4_buy_101 : decode cX4_buy 101 = .ok (.iconst 0, 1) := by decide +kernel
theorem dX4_buy_102 : decode cX4_buy 102 = .ok (.iadd, 1) := by decide +kernel
theorem dX4_buy_103 : decode cX4_buy 103 = .ok (.istore 5, 2) := by decide +kernel
theorem dX4_buy_105 : decode cX4_buy 105 = .ok (.iinc 6 1, 3) := by decide +kernel
theorem dX4_buy_108 : decode cX4_buy 108 = .ok (.goto (-45), 3) := by decide +kernel
theorem dX4_buy_111 : decode cX4_buy 111 = .ok (.aload_n 0, 1) := by decide +kernel
theorem dX4_buy_112 : decode cX4_buy 112 = .ok (.getfield 7, 3) := by decide +kernel
theorem dX4_buy_115 : decode cX4_buy 115 = .ok (.sipush 239, 3) := by decide +kernel
theorem dX4_buy_118 : decode cX4_buy 118 = .ok (.iload_n 1, 1) := by decide +kernel
theorem dX4_buy_119 : decode cX4_buy 119 = .ok (.iadd, 1) := by decide +kernel
theorem dX4_buy_120 : decode cX4_buy 120 = .ok (.dup2, 1) := by decide +kernel
theorem dX4_buy_121 : decode cX4_buy 121 = .ok (.iaload, 1) := by decide +kernel
theorem dX4_buy_122 : decode cX4_buy 122 = .ok (.iload 5, 2) := by decide +kernel
theorem dX4_buy_124 : decode cX4_buy 124 = .ok (.iadd, 1) := by decide +kernel
theorem dX4_buy_125 : decode cX4_buy 125 = .ok (.iastore, 1) := by decide +kernel
theorem dX4_buy_126 : decode cX4_buy 126 = .ok (.aload_n 0, 1) := by decide +kernel
theorem dX4_buy_127 : decode cX4_buy 127 = .ok (.getfield 7, 3) := by decide +kernel
theorem dX4_buy_130 : decode cX4_buy 130 = .ok (.sipush 214, 3) := by decide +kernel
theorem dX4_buy_133 : decode cX4_buy 133 = .ok (.iload_n 1, 1) := by decide +kernel
theorem dX4_buy_134 : decode cX4_buy 134 = .ok (.iadd, 1) := by decide +kernel
theorem dX4_buy_135 : decode cX4_buy 135 = .ok (.dup2, 1) := by decide +kernel
theorem dX4_buy_136 : decode cX4_buy 136 = .ok (.iaload, 1) := by decide +kernel
theorem dX4_buy_137 : decode cX4_buy 137 = .ok (.iload_n 2, 1) := by decide +kernel
theorem dX4_buy_138 : decode cX4_buy 138 = .ok (.iload 5, 2) := by decide +kernel
theorem dX4_buy_140 : decode cX4_buy 140 = .ok (.isub, 1) := by decide +kernel
theorem dX4_buy_141 : decode cX4_buy 141 = .ok (.iadd, 1) := by decide +kernel
theorem dX4_buy_142 : decode cX4_buy 142 = .ok (.iastore, 1) := by decide +kernel
theorem dX4_buy_143 : decode cX4_buy 143 = .ok (.aload_n 0, 1) := by decide +kernel
theorem dX4_buy_144 : decode cX4_buy 144 = .ok (.getfield 7, 3) := by decide +kernel
theorem dX4_buy_147 : decode cX4_buy 147 = .ok (.sipush 264, 3) := by decide +kernel
theorem dX4_buy_150 : decode cX4_buy 150 = .ok (.iload_n 1, 1) := by decide +kernel
theorem dX4_buy_151 : decode cX4_buy 151 = .ok (.iadd, 1) := by decide +kernel
theorem dX4_buy_152 : decode cX4_buy 152 = .ok (.dup2, 1) := by decide +kernel
theorem dX4_buy_153 : decode cX4_buy 153 = .ok (.iaload, 1) := by decide +kernel
theorem dX4_buy_154 : decode cX4_buy 154 = .ok (.iload_n 2, 1) := by decide +kernel
theorem dX4_buy_155 : decode cX4_buy 155 = .ok (.iadd, 1) := by decide +kernel
theorem dX4_buy_156 : decode cX4_buy 156 = .ok (.iastore, 1) := by decide +kernel
theorem dX4_buy_157 : decode cX4_buy 157 = .ok (.aload_n 0, 1) := by decide +kernel
theorem dX4_buy_158 : decode cX4_buy 158 = .ok (.getfield 7, 3) := by decide +kernel
theorem dX4_buy_161 : decode cX4_buy 161 = .ok (.bipush 13, 2) := by decide +kernel
theorem dX4_buy_163 : decode cX4_buy 163 = .ok (.dup2, 1) := by decide +kernel
theorem dX4_buy_164 : decode cX4_buy 164 = .ok (.iaload, 1) := by decide +kernel
theorem dX4_buy_165 : decode cX4_buy 165 = .ok (.iload_n 2, 1) := by decide +kernel
theorem dX4_buy_166 : decode cX4_buy 166 = .ok (.iload_n 1, 1) := by decide +kernel
theorem dX4_buy_167 : decode cX4_buy 167 = .ok (.invokestatic 77, 3) := by decide +kernel
theorem dX4_buy_170 : decode cX4_buy 170 = .ok (.imul, 1) := by decide +kernel
theorem dX4_buy_171 : decode cX4_buy 171 = .ok (.iadd, 1) := by decide +kernel
theorem dX4_buy_172 : decode cX4_buy 172 = .ok (.iastore, 1) := by decide +kernel
theorem dX4_buy_173 : decode cX4_buy 173 = .ok (.iload 5, 2) := by decide +kernel
theorem dX4_buy_175 : decode cX4_buy 175 = .ok (.ireturn, 1) := by decide +kernel
theorem dX4_recut_0 : decode cX4_recut 0 = .ok (.aload_n 0, 1) := by decide +kernel
theorem dX4_recut_1 : decode cX4_recut 1 = .ok (.iconst 0, 1) := by decide +kernel
theorem dX4_recut_2 : decode cX4_recut 2 = .ok (.putfield 25, 3) := by decide +kernel
theorem dX4_recut_5 : decode cX4_recut 5 = .ok (.iload_n 1, 1) := by decide +kernel
theorem dX4_recut_6 : decode cX4_recut 6 = .ok (.invokestatic 69, 3) := by decide +kernel
end
section
theorem dX4_recut_9 : decode cX4_recut 9 = .ok (.ifCond .eq 32, 3) := by decide +kernel
theorem dX4_recut_12 : decode cX4_recut 12 = .ok (.iload_n 2, 1) := by decide +kernel
theorem dX4_recut_13 : decode cX4_recut 13 = .ok (.bipush 8, 2) := by decide +kernel
theorem dX4_recut_15 : decode cX4_recut 15 = .ok (.bipush 20, 2) := by decide +kernel
theorem dX4_recut_17 : decode cX4_recut 17 = .ok (.invokestatic 29, 3) := by decide +kernel
theorem dX4_recut_20 : decode cX4_recut 20 = .ok (.ifCond .eq 21, 3) := by decide +kernel
theorem dX4_recut_23 : decode cX4_recut 23 = .ok (.iload_n 3, 1) := by decide +kernel
theorem dX4_recut_24 : decode cX4_recut 24 = .ok (.iconst 1, 1) := by decide +kernel
theorem dX4_recut_25 : decode cX4_recut 25 = .ok (.sipush 200, 3) := by decide +kernel
theorem dX4_recut_28 : decode cX4_recut 28 = .ok (.invokestatic 29, 3) := by decide +kernel
theorem dX4_recut_31 : decode cX4_recut 31 = .ok (.ifCond .eq 10, 3) := by decide +kernel
theorem dX4_recut_34 : decode cX4_recut 34 = .ok (.iload_n 2, 1) := by decide +kernel
theorem dX4_recut_35 : decode cX4_recut 35 = .ok (.iload_n 1, 1) := by decide +kernel
theorem dX4_recut_36 : decode cX4_recut 36 = .ok (.iconst 4, 1) := by decide +kernel
theorem dX4_recut_37 : decode cX4_recut 37 = .ok (.isub, 1) := by decide +kernel
theorem dX4_recut_38 : decode cX4_recut 38 = .ok (.if_icmp .le 9, 3) := by decide +kernel
theorem dX4_recut_41 : decode cX4_recut 41 = .ok (.aload_n 0, 1) := by decide +kernel
theorem dX4_recut_42 : decode cX4_recut 42 = .ok (.iconst 1, 1) := by decide +kernel
theorem dX4_recut_43 : decode cX4_recut 43 = .ok (.invokevirtual 60, 3) := by decide +kernel
theorem dX4_recut_46 : decode cX4_recut 46 = .ok (.ireturn, 1) := by decide +kernel
theorem dX4_recut_47 : decode cX4_recut 47 = .ok (.aload_n 0, 1) := by decide +kernel
theorem dX4_recut_48 : decode cX4_recut 48 = .ok (.getfield 7, 3) := by decide +kernel
theorem dX4_recut_51 : decode cX4_recut 51 = .ok (.sipush 239, 3) := by decide +kernel
theorem dX4_recut_54 : decode cX4_recut 54 = .ok (.iload_n 1, 1) := by decide +kernel
theorem dX4_recut_55 : decode cX4_recut 55 = .ok (.iadd, 1) := by decide +kernel
theorem dX4_recut_56 : decode cX4_recut 56 = .ok (.iaload, 1) := by decide +kernel
theorem dX4_recut_57 : decode cX4_recut 57 = .ok (.iload_n 3, 1) := by decide +kernel
theorem dX4_recut_58 : decode cX4_recut 58 = .ok (.if_icmp .ge 9, 3) := by decide +kernel
theorem dX4_recut_61 : decode cX4_recut 61 = .ok (.aload_n 0, 1) := by decide +kernel
theorem dX4_recut_62 : decode cX4_recut 62 = .ok (.iconst 2, 1) := by decide +kernel
theorem dX4_recut_63 : decode cX4_recut 63 = .ok (.invokevirtual 60, 3) := by decide +kernel
theorem dX4_recut_66 : decode cX4_recut 66 = .ok (.ireturn, 1) := by decide +kernel
theorem dX4_recut_67 : decode cX4_recut 67 = .ok (.aload_n 0, 1) := by decide +kernel
theorem dX4_recut_68 : decode cX4_recut 68 = .ok (.invokevirtual 63, 3) := by decide +kernel
theorem dX4_recut_71 : decode cX4_recut 71 = .ok (.aload_n 0, 1) := by decide +kernel
theorem dX4_recut_72 : decode cX4_recut 72 = .ok (.getfield 7, 3) := by decide +kernel
theorem dX4_recut_75 : decode cX4_recut 75 = .ok (.sipush 239, 3) := by decide +kernel
theorem dX4_recut_78 : decode cX4_recut 78 = .ok (.iload_n 1, 1) := by decide +kernel
theorem dX4_recut_79 : decode cX4_recut 79 = .ok (.iadd, 1) := by decide +kernel
theorem dX4_recut_80 : decode cX4_recut 80 = .ok (.dup2, 1) := by decide +kernel
theorem dX4_recut_81 : decode cX4_recut 81 = .ok (.iaload, 1) := by decide +kernel
theorem dX4_recut_82 : decode cX4_recut 82 = .ok (.iload_n 3, 1) := by decide +kernel
theorem dX4_recut_83 : decode cX4_recut 83 = .ok (.isub, 1) := by decide +kernel
theorem dX4_recut_84 : decode cX4_recut 84 = .ok (.iastore, 1) := by decide +kernel
theorem dX4_recut_85 : decode cX4_recut 85 = .ok (.aload_n 0, 1) := by decide +kernel
theorem dX4_recut_86 : decode cX4_recut 86 = .ok (.getfield 7, 3) := by decide +kernel
theorem dX4_recut_89 : decode cX4_recut 89 = .ok (.sipush 214, 3) := by decide +kernel
theorem dX4_recut_92 : decode cX4_recut 92 = .ok (.iload_n 2, 1) := by decide +kernel
theorem dX4_recut_93 : decode cX4_recut 93 = .ok (.iadd, 1) := by decide +kernel
theorem dX4_recut_94 : decode cX4_recut 94 = .ok (.dup2, 1) := by decide +kernel
theorem dX4_recut_95 : decode cX4_recut 95 = .ok (.iaload, 1) := by decide +kernel
theorem dX4_recut_96 : decode cX4_recut 96 = .ok (.iload_n 3, 1) := by decide +kernel
theorem dX4_recut_97 : decode cX4_recut 97 = .ok (.iadd, 1) := by decide +kernel
theorem dX4_recut_98 : decode cX4_recut 98 = .ok (.iastore, 1) := by decide +kernel
theorem dX4_recut_99 : decode cX4_recut 99 = .ok (.aload_n 0, 1) := by decide +kernel
theorem dX4_recut_100 : decode cX4_recut 100 = .ok (.getfield 7, 3) := by decide +kernel
theorem dX4_recut_103 : decode cX4_recut 103 = .ok (.bipush 10, 2) := by decide +kernel
theorem dX4_recut_105 : decode cX4_recut 105 = .ok (.dup2, 1) := by decide +kernel
theorem dX4_recut_106 : decode cX4_recut 106 = .ok (.iaload, 1) := by decide +kernel
theorem dX4_recut_107 : decode cX4_recut 107 = .ok (.iload_n 3, 1) := by decide +kernel
theorem dX4_recut_108 : decode cX4_recut 108 = .ok (.iadd, 1) := by decide +kernel
theorem dX4_recut_109 : decode cX4_recut 109 = .ok (.iastore, 1) := by decide +kernel
theorem dX4_recut_110 : decode cX4_recut 110 = .ok (.aload_n 0, 1) := by decide +kernel
theorem dX4_recut_111 : decode cX4_recut 111 = .ok (.getfield 7, 3) := by decide +kernel
theorem dX4_recut_114 : decode cX4_recut 114 = .ok (.sipush 239, 3) := by decide +kernel
theorem dX4_recut_117 : decode cX4_recut 117 = .ok (.iload_n 1, 1) := by decide +kernel
theorem dX4_recut_118 : decode cX4_recut 118 = .ok (.iadd, 1) := by decide +kernel
theorem dX4_recut_119 : decode cX4_recut 119 = .ok (.iaload, 1) := by decide +kernel
theorem dX4_recut_120 : decode cX4_recut 120 = .ok (.ireturn, 1) := by decide +kernel
theorem dX4_clearHeap_0 : decode cX4_clearHeap 0 = .ok (.aload_n 0, 1) := by decide +kernel
theorem dX4_clearHeap_1 : decode cX4_clearHeap 1 = .ok (.iconst 0, 1) := by decide +kernel
theorem dX4_clearHeap_2 : decode cX4_clearHeap 2 = .ok (.putfield 25, 3) := by decide +kernel
theorem dX4_clearHeap_5 : decode cX4_clearHeap 5 = .ok (.iload_n 1, 1) := by decide +kernel
theorem dX4_clearHeap_6 : decode cX4_clearHeap 6 = .ok (.bipush 8, 2) := by decide +kernel
theorem dX4_clearHeap_8 : decode cX4_clearHeap 8 = .ok (.bipush 25, 2) := by decide +kernel
theorem dX4_clearHeap_10 : decode cX4_clearHeap 10 = .ok (.invokestatic 29, 3) := by decide +kernel
theorem dX4_clearHeap_13 : decode cX4_clearHeap 13 = .ok (.ifCond .ne 9, 3) := by decide +kernel
theorem dX4_clearHeap_16 : decode cX4_clearHeap 16 = .ok (.aload_n 0, 1) := by decide +kernel
theorem dX4_clearHeap_17 : decode cX4_clearHeap 17 = .ok (.iconst 1, 1) := by decide +kernel
theorem dX4_clearHeap_18 : decode cX4_clearHeap 18 = .ok (.invokevirtual 60, 3) := by decide +kernel
theorem dX4_clearHeap_21 : decode cX4_clearHeap 21 = .ok (.ireturn, 1) := by decide +kernel
theorem dX4_clearHeap_22 : decode cX4_clearHeap 22 = .ok (.aload_n 0, 1) := by decide +kernel
theorem dX4_clearHeap_23 : decode cX4_clearHeap 23 = .ok (.invokevirtual 63, 3) := by decide +kernel
theorem dX4_clearHeap_26 : decode cX4_clearHeap 26 = .ok (.iconst 0, 1) := by decide +kernel
theorem dX4_clearHeap_27 : decode cX4_clearHeap 27 = .ok (.istore_n 2, 1) := by decide +kernel
theorem dX4_clearHeap_28 : decode cX4_clearHeap 28 = .ok (.bipush 8, 2) := by decide +kernel
theorem dX4_clearHeap_30 : decode cX4_clearHeap 30 = .ok (.istore_n 3, 1) := by decide +kernel
theorem dX4_clearHeap_31 : decode cX4_clearHeap 31 = .ok (.iload_n 3, 1) := by decide +kernel
theorem dX4_clearHeap_32 : decode cX4_clearHeap 32 = .ok (.iload_n 1, 1) := by decide +kernel
theorem dX4_clearHeap_33 : decode cX4_clearHeap 33 = .ok (.if_icmp .ge 33, 3) := by decide +kernel
theorem dX4_clearHeap_36 : decode cX4_clearHeap 36 = .ok (.iload_n 2, 1) := by decide +kernel
theorem dX4_clearHeap_37 : decode cX4_clearHeap 37 = .ok (.aload_n 0, 1) := by decide +kernel
theorem dX4_clearHeap_38 : decode cX4_clearHeap 38 = .ok (.getfield 7, 3) := by decide +kernel
theorem dX4_clearHeap_41 : decode cX4_clearHeap 41 = .ok (.sipush 239, 3) := by decide +kernel
theorem dX4_clearHeap_44 : decode cX4_clearHeap 44 = .ok (.iload_n 3, 1) := by decide +kernel
theorem dX4_clearHeap_45 : decode cX4_clearHeap 45 = .ok (.iadd, 1) := by decide +kernel
theorem dX4_clearHeap_46 : decode cX4_clearHeap 46 = .ok (.iaload, 1) := by decide +kernel
theorem dX4_clearHeap_47 : decode cX4_clearHeap 47 = .ok (.iadd, 1) := by decide +kernel
theorem dX4_clearHeap_48 : decode cX4_clearHeap 48 = .ok (.istore_n 2, 1) := by decide +kernel
theorem dX4_clearHeap_49 : decode cX4_clearHeap 49 = .ok (.aload_n 0, 1) := by decide +kernel
theorem dX4_clearHeap_50 : decode cX4_clearHeap 50 = .ok (.getfield 7, 3) := by decide +kernel
theorem dX4_clearHeap_53 : decode cX4_clearHeap 53 = .ok (.sipush 239, 3) := by decide +kernel
theorem dX4_clearHeap_56 : decode cX4_clearHeap 56 = .ok (.iload_n 3, 1) := by decide +kernel
theorem dX4_clearHeap_57 : decode cX4_clearHeap 57 = .ok (.iadd, 1) := by decide +kernel
theorem dX4_clearHeap_58 : decode cX4_clearHeap 58 = .ok (.iconst 0, 1) := by decide +kernel
theorem dX4_clearHeap_59 : decode cX4_clearHeap 59 = .ok (.iastore, 1) := by decide +kernel
theorem dX4_clearHeap_60 : decode cX4_clearHeap 60 = .ok (.iinc 3 1, 3) := by decide +kernel
theorem dX4_clearHeap_63 : decode cX4_clearHeap 63 = .ok (.goto (-32), 3) := by decide +kernel
theorem dX4_clearHeap_66 : decode cX4_clearHeap 66 = .ok (.aload_n 0, 1) := by decide +kernel
theorem dX4_clearHeap_67 : decode cX4_clearHeap 67 = .ok (.getfield 7, 3) := by decide +kernel
theorem dX4_clearHeap_70 : decode cX4_clearHeap 70 = .ok (.bipush 11, 2) := by decide +kernel
theorem dX4_clearHeap_72 : decode cX4_clearHeap 72 = .ok (.dup2, 1) := by decide +kernel
theorem dX4_clearHeap_73 : decode cX4_clearHeap 73 = .ok (.iaload, 1) := by decide +kernel
theorem dX4_clearHeap_74 : decode cX4_clearHeap 74 = .ok (.iload_n 2, 1) := by decide +kernel
theorem dX4_clearHeap_75 : decode cX4_clearHeap 75 = .ok (.iadd, 1) := by decide +kernel
theorem dX4_clearHeap_76 : decode cX4_clearHeap 76 = .ok (.iastore, 1) := by decide +kernel
theorem dX4_clearHeap_77 : decode cX4_clearHeap 77 = .ok (.iload_n 2, 1) := by decide +kernel
theorem dX4_clearHeap_78 : decode cX4_clearHeap 78 = .ok (.ireturn, 1) := by decide +kernel
theorem dX4_lastCourse_0 : decode cX4_lastCourse 0 = .ok (.aload_n 0, 1) := by decide +kernel
theorem dX4_lastCourse_1 : decode cX4_lastCourse 1 = .ok (.getfield 7, 3) := by decide +kernel
theorem dX4_lastCourse_4 : decode cX4_lastCourse 4 = .ok (.iconst 2, 1) := by decide +kernel
theorem dX4_lastCourse_5 : decode cX4_lastCourse 5 = .ok (.iaload, 1) := by decide +kernel
theorem dX4_lastCourse_6 : decode cX4_lastCourse 6 = .ok (.iconst 1, 1) := by decide +kernel
theorem dX4_lastCourse_7 : decode cX4_lastCourse 7 = .ok (.isub, 1) := by decide +kernel
theorem dX4_lastCourse_8 : decode cX4_lastCourse 8 = .ok (.ireturn, 1) := by decide +kernel
theorem dX4_begins_0 : decode cX4_begins 0 = .ok (.aload_n 0, 1) := by decide +kernel
theorem dX4_begins_1 : decode cX4_begins 1 = .ok (.getfield 7, 3) := by decide +kernel
theorem dX4_begins_4 : decode cX4_begins 4 = .ok (.bipush 14, 2) := by decide +kernel
theorem dX4_begins_6 : decode cX4_begins 6 = .ok (.aload_n 0, 1) := by decide +kernel
theorem dX4_begins_7 : decode cX4_begins 7 = .ok (.getfield 7, 3) := by decide +kernel
theorem dX4_begins_10 : decode cX4_begins 10 = .ok (.iconst 2, 1) := by decide +kernel
theorem dX4_begins_11 : decode cX4_begins 11 = .ok (.iaload, 1) := by decide +kernel
theorem dX4_begins_12 : decode cX4_begins 12 = .ok (.iadd, 1) := by decide +kernel
theorem dX4_begins_13 : decode cX4_begins 13 = .ok (.iload_n 1, 1) := by decide +kernel
theorem dX4_begins_14 : decode cX4_begins 14 = .ok (.iastore, 1) := by decide +kernel
theorem dX4_begins_15 : decode cX4_begins 15 = .ok (.aload_n 0, 1) := by decide +kernel
theorem dX4_begins_16 : decode cX4_begins 16 = .ok (.getfield 7, 3) := by decide +kernel
theorem dX4_begins_19 : decode cX4_begins 19 = .ok (.bipush 114, 2) := by decide +kernel
theorem dX4_begins_21 : decode cX4_begins 21 = .ok (.aload_n 0, 1) := by decide +kernel
theorem dX4_begins_22 : decode cX4_begins 22 = .ok (.getfield 7, 3) := by decide +kernel
theorem dX4_begins_25 : decode cX4_begins 25 = .ok (.iconst 2, 1) := by decide +kernel
theorem dX4_begins_26 : decode cX4_begins 26 = .ok (.iaload, 1) := by decide +kernel
theorem dX4_begins_27 : decode cX4_begins 27 = .ok (.iadd, 1) := by decide +kernel
theorem dX4_begins_28 : decode cX4_begins 28 = .ok (.iconst 0, 1) := by decide +kernel
theorem dX4_begins_29 : decode cX4_begins 29 = .ok (.iastore, 1) := by decide +kernel
theorem dX4_begins_30 : decode cX4_begins 30 = .ok (.aload_n 0, 1) := by decide +kernel
theorem dX4_begins_31 : decode cX4_begins 31 = .ok (.getfield 7, 3) := by decide +kernel
theorem dX4_begins_34 : decode cX4_begins 34 = .ok (.iconst 2, 1) := by decide +kernel
theorem dX4_begins_35 : decode cX4_begins 35 = .ok (.dup2, 1) := by decide +kernel
theorem dX4_begins_36 : decode cX4_begins 36 = .ok (.iaload, 1) := by decide +kernel
theorem dX4_begins_37 : decode cX4_begins 37 = .ok (.iconst 1, 1) := by decide +kernel
theorem dX4_begins_38 : decode cX4_begins 38 = .ok (.iadd, 1) := by decide +kernel
theorem dX4_begins_39 : decode cX4_begins 39 = .ok (.iastore, 1) := by decide +kernel
theorem dX4_begins_40 : decode cX4_begins 40 = .ok (.return_, 1) := by decide +kernel
theorem dX4_course_0 : decode cX4_course 0 = .ok (.aload_n 0, 1) := by decide +kernel
theorem dX4_course_1 : decode cX4_course 1 = .ok (.iconst 0, 1) := by decide +kernel
theorem dX4_course_2 : decode cX4_course 2 = .ok (.putfield 25, 3) := by decide +kernel
theorem dX4_course_5 : decode cX4_course 5 = .ok (.iload_n 1, 1) := by decide +kernel
theorem dX4_course_6 : decode cX4_course 6 = .ok (.invokestatic 69, 3) := by decide +kernel
theorem dX4_course_9 : decode cX4_course 9 = .ok (.ifCond .ne 9, 3) := by decide +kernel
theorem dX4_course_12 : decode cX4_course 12 = .ok (.aload_n 0, 1) := by decide +kernel
theorem dX4_course_13 : decode cX4_course 13 = .ok (.iconst 1, 1) := by decide +kernel
theorem dX4_course_14 : decode cX4_course 14 = .ok (.invokevirtual 60, 3) := by decide +kernel
theorem dX4_course_17 : decode cX4_course 17 = .ok (.ireturn, 1) := by decide +kernel
theorem dX4_course_18 : decode cX4_course 18 = .ok (.aload_n 0, 1) := by decide +kernel
theorem dX4_course_19 : decode cX4_course 19 = .ok (.invokevirtual 80, 3) := by decide +kernel
theorem dX4_course_22 : decode cX4_course 22 = .ok (.ifCond .eq 39, 3) := by decide +kernel
theorem dX4_course_25 : decode cX4_course 25 = .ok (.aload_n 0, 1) := by decide +kernel
theorem dX4_course_26 : decode cX4_course 26 = .ok (.getfield 7, 3) := by decide +kernel
theorem dX4_course_29 : decode cX4_course 29 = .ok (.iconst 2, 1) := by decide +kernel
theorem dX4_course_30 : decode cX4_course 30 = .ok (.iaload, 1) := by decide +kernel
theorem dX4_course_31 : decode cX4_course 31 = .ok (.bipush 100, 2) := by decide +kernel
theorem dX4_course_33 : decode cX4_course 33 = .ok (.if_icmp .ge 28, 3) := by decide +kernel
theorem dX4_course_36 : decode cX4_course 36 = .ok (.iload_n 1, 1) := by decide +kernel
theorem dX4_course_37 : decode cX4_course 37 = .ok (.aload_n 0, 1) := by decide +kernel
theorem dX4_course_38 : decode cX4_course 38 = .ok (.invokevirtual 84, 3) := by decide +kernel
theorem dX4_course_41 : decode cX4_course 41 = .ok (.if_icmp .gt 20, 3) := by decide +kernel
theorem dX4_course_44 : decode cX4_course 44 = .ok (.aload_n 0, 1) := by decide +kernel
theorem dX4_course_45 : decode cX4_course 45 = .ok (.invokevirtual 53, 3) := by decide +kernel
theorem dX4_course_48 : decode cX4_course 48 = .ok (.aload_n 0, 1) := by decide +kernel
theorem dX4_course_49 : decode cX4_course 49 = .ok (.getfield 7, 3) := by decide +kernel
theorem dX4_course_52 : decode cX4_course 52 = .ok (.iconst 0, 1) := by decide +kernel
theorem dX4_course_53 : decode cX4_course 53 = .ok (.iaload, 1) := by decide +kernel
theorem dX4_course_54 : decode cX4_course 54 = .ok (.if_icmp .ge 7, 3) := by decide +kernel
theorem dX4_course_57 : decode cX4_course 57 = .ok (.iconst 1, 1) := by decide +kernel
theorem dX4_course_58 : decode cX4_course 58 = .ok (.goto 4, 3) := by decide +kernel
theorem dX4_course_61 : decode cX4_course 61 = .ok (.iconst 0, 1) := by decide +kernel
theorem dX4_course_62 : decode cX4_course 62 = .ok (.istore_n 2, 1) := by decide +kernel
theorem dX4_course_63 : decode cX4_course 63 = .ok (.iload_n 2, 1) := by decide +kernel
theorem dX4_course_64 : decode cX4_course 64 = .ok (.ifCond .eq 24, 3) := by decide +kernel
theorem dX4_course_67 : decode cX4_course 67 = .ok (.aload_n 0, 1) := by decide +kernel
theorem dX4_course_68 : decode cX4_course 68 = .ok (.getfield 7, 3) := by decide +kernel
theorem dX4_course_71 : decode cX4_course 71 = .ok (.iconst 2, 1) := by decide +kernel
theorem dX4_course_72 : decode cX4_course 72 = .ok (.iaload, 1) := by decide +kernel
theorem dX4_course_73 : decode cX4_course 73 = .ok (.ifCond .le 21, 3) := by decide +kernel
theorem dX4_course_76 : decode cX4_course 76 = .ok (.aload_n 0, 1) := by decide +kernel
theorem dX4_course_77 : decode cX4_course 77 = .ok (.aload_n 0, 1) := by decide +kernel
theorem dX4_course_78 : decode cX4_course 78 = .ok (.invokevirtual 87, 3) := by decide +kernel
theorem dX4_course_81 : decode cX4_course 81 = .ok (.invokevirtual 90, 3) := by decide +kernel
theorem dX4_course_84 : decode cX4_course 84 = .ok (.iconst (-1), 1) := by decide +kernel
theorem dX4_course_85 : decode cX4_course 85 = .ok (.if_icmp .eq 9, 3) := by decide +kernel
theorem dX4_course_88 : decode cX4_course 88 = .ok (.aload_n 0, 1) := by decide +kernel
theorem dX4_course_89 : decode cX4_course 89 = .ok (.iconst 2, 1) := by decide +kernel
theorem dX4_course_90 : decode cX4_course 90 = .ok (.invokevirtual 60, 3) := by decide +kernel
theorem dX4_course_93 : decode cX4_course 93 = .ok (.ireturn, 1) := by decide +kernel
theorem dX4_course_94 : decode cX4_course 94 = .ok (.aload_n 0, 1) := by decide +kernel
theorem dX4_course_95 : decode cX4_course 95 = .ok (.invokevirtual 63, 3) := by decide +kernel
theorem dX4_course_98 : decode cX4_course 98 = .ok (.aload_n 0, 1) := by decide +kernel
theorem dX4_course_99 : decode cX4_course 99 = .ok (.iload_n 1, 1) := by decide +kernel
theorem dX4_course_100 : decode cX4_course 100 = .ok (.invokevirtual 93, 3) := by decide +kernel
theorem dX4_course_103 : decode cX4_course 103 = .ok (.aload_n 0, 1) := by decide +kernel
theorem dX4_course_104 : decode cX4_course 104 = .ok (.invokevirtual 87, 3) := by decide +kernel
theorem dX4_course_107 : decode cX4_course 107 = .ok (.ireturn, 1) := by decide +kernel
theorem dX4_lays_0 : decode cX4_lays 0 = .ok (.aload_n 0, 1) := by decide +kernel
theorem dX4_lays_1 : decode cX4_lays 1 = .ok (.getfield 7, 3) := by decide +kernel
theorem dX4_lays_4 : decode cX4_lays 4 = .ok (.bipush 114, 2) := by decide +kernel
theorem dX4_lays_6 : decode cX4_lays 6 = .ok (.iload_n 1, 1) := by decide +kernel
theorem dX4_lays_7 : decode cX4_lays 7 = .ok (.iadd, 1) := by decide +kernel
theorem dX4_lays_8 : decode cX4_lays 8 = .ok (.dup2, 1) := by decide +kernel
theorem dX4_lays_9 : decode cX4_lays 9 = .ok (.iaload, 1) := by decide +kernel
theorem dX4_lays_10 : decode cX4_lays 10 = .ok (.iconst 1, 1) := by decide +kernel
theorem dX4_lays_11 : decode cX4_lays 11 = .ok (.iload_n 2, 1) := by decide +kernel
theorem dX4_lays_12 : decode cX4_lays 12 = .ok (.ishl, 1) := by decide +kernel
theorem dX4_lays_13 : decode cX4_lays 13 = .ok (.ior, 1) := by decide +kernel
theorem dX4_lays_14 : decode cX4_lays 14 = .ok (.iastore, 1) := by decide +kernel
theorem dX4_lays_15 : decode cX4_lays 15 = .ok (.aload_n 0, 1) := by decide +kernel
theorem dX4_lays_16 : decode cX4_lays 16 = .ok (.getfield 7, 3) := by decide +kernel
theorem dX4_lays_19 : decode cX4_lays 19 = .ok (.sipush 214, 3) := by decide +kernel
theorem dX4_lays_22 : decode cX4_lays 22 = .ok (.aload_n 0, 1) := by decide +kernel
theorem dX4_lays_23 : decode cX4_lays 23 = .ok (.getfield 7, 3) := by decide +kernel
theorem dX4_lays_26 : decode cX4_lays 26 = .ok (.bipush 14, 2) := by decide +kernel
theorem dX4_lays_28 : decode cX4_lays 28 = .ok (.iload_n 1, 1) := by decide +kernel
theorem dX4_lays_29 : decode cX4_lays 29 = .ok (.iadd, 1) := by decide +kernel
theorem dX4_lays_30 : decode cX4_lays 30 = .ok (.iaload, 1) := by decide +kernel
theorem dX4_lays_31 : decode cX4_lays 31 = .ok (.iadd, 1) := by decide +kernel
theorem dX4_lays_32 : decode cX4_lays 32 = .ok (.dup2, 1) := by decide +kernel
theorem dX4_lays_33 : decode cX4_lays 33 = .ok (.iaload, 1) := by decide +kernel
theorem dX4_lays_34 : decode cX4_lays 34 = .ok (.iconst 1, 1) := by decide +kernel
theorem dX4_lays_35 : decode cX4_lays 35 = .ok (.isub, 1) := by decide +kernel
theorem dX4_lays_36 : decode cX4_lays 36 = .ok (.iastore, 1) := by decide +kernel
theorem dX4_lays_37 : decode cX4_lays 37 = .ok (.aload_n 0, 1) := by decide +kernel
theorem dX4_lays_38 : decode cX4_lays 38 = .ok (.getfield 7, 3) := by decide +kernel
theorem dX4_lays_41 : decode cX4_lays 41 = .ok (.bipush 7, 2) := by decide +kernel
theorem dX4_lays_43 : decode cX4_lays 43 = .ok (.dup2, 1) := by decide +kernel
theorem dX4_lays_44 : decode cX4_lays 44 = .ok (.iaload, 1) := by decide +kernel
theorem dX4_lays_45 : decode cX4_lays 45 = .ok (.iload_n 3, 1) := by decide +kernel
theorem dX4_lays_46 : decode cX4_lays 46 = .ok (.isub, 1) := by decide +kernel
theorem dX4_lays_47 : decode cX4_lays 47 = .ok (.iastore, 1) := by decide +kernel
theorem dX4_lays_48 : decode cX4_lays 48 = .ok (.return_, 1) := by decide +kernel
theorem dX4_lay_0 : decode cX4_lay 0 = .ok (.aload_n 0, 1) := by decide +kernel
theorem dX4_lay_1 : decode cX4_lay 1 = .ok (.iconst 0, 1) := by decide +kernel
theorem dX4_lay_2 : decode cX4_lay 2 = .ok (.putfield 25, 3) := by decide +kernel
theorem dX4_lay_5 : decode cX4_lay 5 = .ok (.iload_n 1, 1) := by decide +kernel
theorem dX4_lay_6 : decode cX4_lay 6 = .ok (.iconst 1, 1) := by decide +kernel
theorem dX4_lay_7 : decode cX4_lay 7 = .ok (.bipush 60, 2) := by decide +kernel
theorem dX4_lay_9 : decode cX4_lay 9 = .ok (.invokestatic 29, 3) := by decide +kernel
theorem dX4_lay_12 : decode cX4_lay 12 = .ok (.ifCond .ne 9, 3) := by decide +kernel
theorem dX4_lay_15 : decode cX4_lay 15 = .ok (.aload_n 0, 1) := by decide +kernel
theorem dX4_lay_16 : decode cX4_lay 16 = .ok (.iconst 1, 1) := by decide +kernel
theorem dX4_lay_17 : decode cX4_lay 17 = .ok (.invokevirtual 60, 3) := by decide +kernel
theorem dX4_lay_20 : decode cX4_lay 20 = .ok (.ireturn, 1) := by decide +kernel
theorem dX4_lay_21 : decode cX4_lay 21 = .ok (.aload_n 0, 1) := by decide +kernel
theorem dX4_lay_22 : decode cX4_lay 22 = .ok (.invokevirtual 87, 3) := by decide +kernel
theorem dX4_lay_25 : decode cX4_lay 25 = .ok (.istore_n 2, 1) := by decide +kernel
theorem dX4_lay_26 : decode cX4_lay 26 = .ok (.aload_n 0, 1) := by decide +kernel
theorem dX4_lay_27 : decode cX4_lay 27 = .ok (.invokevirtual 80, 3) := by decide +kernel
theorem dX4_lay_30 : decode cX4_lay 30 = .ok (.ifCond .eq 55, 3) := by decide +kernel
theorem dX4_lay_33 : decode cX4_lay 33 = .ok (.iload_n 2, 1) := by decide +kernel
theorem dX4_lay_34 : decode cX4_lay 34 = .ok (.ifCond .lt 51, 3) := by decide +kernel
theorem dX4_lay_37 : decode cX4_lay 37 = .ok (.aload_n 0, 1) := by decide +kernel
theorem dX4_lay_38 : decode cX4_lay 38 = .ok (.iload_n 2, 1) := by decide +kernel
theorem dX4_lay_39 : decode cX4_lay 39 = .ok (.invokevirtual 36, 3) := by decide +kernel
theorem dX4_lay_42 : decode cX4_lay 42 = .ok (.aload_n 0, 1) := by decide +kernel
theorem dX4_lay_43 : decode cX4_lay 43 = .ok (.iload_n 2, 1) := by decide +kernel
theorem dX4_lay_44 : decode cX4_lay 44 = .ok (.invokevirtual 50, 3) := by decide +kernel
theorem dX4_lay_47 : decode cX4_lay 47 = .ok (.isub, 1) := by decide +kernel
theorem dX4_lay_48 : decode cX4_lay 48 = .ok (.iload_n 1, 1) := by decide +kernel
theorem dX4_lay_49 : decode cX4_lay 49 = .ok (.if_icmp .lt 36, 3) := by decide +kernel
theorem dX4_lay_52 : decode cX4_lay 52 = .ok (.aload_n 0, 1) := by decide +kernel
theorem dX4_lay_53 : decode cX4_lay 53 = .ok (.getfield 7, 3) := by decide +kernel
theorem dX4_lay_56 : decode cX4_lay 56 = .ok (.sipush 214, 3) := by decide +kernel
theorem dX4_lay_59 : decode cX4_lay 59 = .ok (.aload_n 0, 1) := by decide +kernel
theorem dX4_lay_60 : decode cX4_lay 60 = .ok (.getfield 7, 3) := by decide +kernel
theorem dX4_lay_63 : decode cX4_lay 63 = .ok (.bipush 14, 2) := by decide +kernel
theorem dX4_lay_65 : decode cX4_lay 65 = .ok (.iload_n 2, 1) := by decide +kernel
theorem dX4_lay_66 : decode cX4_lay 66 = .ok (.iadd, 1) := by decide +kernel
theorem dX4_lay_67 : decode cX4_lay 67 = .ok (.iaload, 1) := by decide +kernel
theorem dX4_lay_68 : decode cX4_lay 68 = .ok (.iadd, 1) := by decide +kernel
theorem dX4_lay_69 : decode cX4_lay 69 = .ok (.iaload, 1) := by decide +kernel
theorem dX4_lay_70 : decode cX4_lay 70 = .ok (.iload_n 1, 1) := by decide +kernel
theorem dX4_lay_71 : decode cX4_lay 71 = .ok (.if_icmp .lt 14, 3) := by decide +kernel
theorem dX4_lay_74 : decode cX4_lay 74 = .ok (.aload_n 0, 1) := by decide +kernel
theorem dX4_lay_75 : decode cX4_lay 75 = .ok (.getfield 7, 3) := by decide +kernel
theorem dX4_lay_78 : decode cX4_lay 78 = .ok (.bipush 7, 2) := by decide +kernel
theorem dX4_lay_80 : decode cX4_lay 80 = .ok (.iaload, 1) := by decide +kernel
theorem dX4_lay_81 : decode cX4_lay 81 = .ok (.iload_n 1, 1) := by decide +kernel
theorem dX4_lay_82 : decode cX4_lay 82 = .ok (.if_icmp .ge 9, 3) := by decide +kernel
theorem dX4_lay_85 : decode cX4_lay 85 = .ok (.aload_n 0, 1) := by decide +kernel
theorem dX4_lay_86 : decode cX4_lay 86 = .ok (.iconst 2, 1) := by decide +kernel
theorem dX4_lay_87 : decode cX4_lay 87 = .ok (.invokevirtual 60, 3) := by decide +kernel
theorem dX4_lay_90 : decode cX4_lay 90 = .ok (.ireturn, 1) := by decide +kernel
theorem dX4_lay_91 : decode cX4_lay 91 = .ok (.aload_n 0, 1) := by decide +kernel
theorem dX4_lay_92 : decode cX4_lay 92 = .ok (.invokevirtual 63, 3) := by decide +kernel
theorem dX4_lay_95 : decode cX4_lay 95 = .ok (.iconst 0, 1) := by decide +kernel
theorem dX4_lay_96 : decode cX4_lay 96 = .ok (.istore_n 3, 1) := by decide +kernel
theorem dX4_lay_97 : decode cX4_lay 97 = .ok (.iload_n 3, 1) := by decide +kernel
theorem dX4_lay_98 : decode cX4_lay 98 = .ok (.iload_n 1, 1) := by decide +kernel
theorem dX4_lay_99 : decode cX4_lay 99 = .ok (.if_icmp .ge 20, 3) := by decide +kernel
theorem dX4_lay_102 : decode cX4_lay 102 = .ok (.aload_n 0, 1) := by decide +kernel
theorem dX4_lay_103 : decode cX4_lay 103 = .ok (.iload_n 2, 1) := by decide +kernel
theorem dX4_lay_104 : decode cX4_lay 104 = .ok (.aload_n 0, 1) := by decide +kernel
theorem dX4_lay_105 : decode cX4_lay 105 = .ok (.iload_n 2, 1) := by decide +kernel
theorem dX4_lay_106 : decode cX4_lay 106 = .ok (.invokevirtual 90, 3) := by decide +kernel
theorem dX4_lay_109 : decode cX4_lay 109 = .ok (.iconst 1, 1) := by decide +kernel
theorem dX4_lay_110 : decode cX4_lay 110 = .ok (.invokevirtual 97, 3) := by decide +kernel
theorem dX4_lay_113 : decode cX4_lay 113 = .ok (.iinc 3 1, 3) := by decide +kernel
theorem dX4_lay_116 : decode cX4_lay 116 = .ok (.goto (-19), 3) := by decide +kernel
theorem dX4_lay_119 : decode cX4_lay 119 = .ok (.aload_n 0, 1) := by decide +kernel
theorem dX4_lay_120 : decode cX4_lay 120 = .ok (.iload_n 2, 1) := by decide +kernel
theorem dX4_lay_121 : decode cX4_lay 121 = .ok (.invokevirtual 50, 3) := by decide +kernel
theorem dX4_lay_124 : decode cX4_lay 124 = .ok (.ireturn, 1) := by decide +kernel
theorem dX4_isPlace_0 : decode cX4_isPlace 0 = .ok (.iload_n 1, 1) := by decide +kernel
theorem dX4_isPlace_1 : decode cX4_isPlace 1 = .ok (.iconst 0, 1) := by decide +kernel
theorem dX4_isPlace_2 : decode cX4_isPlace 2 = .ok (.aload_n 0, 1) := by decide +kernel
theorem dX4_isPlace_3 : decode cX4_isPlace 3 = .ok (.invokevirtual 87, 3) := by decide +kernel
theorem dX4_isPlace_6 : decode cX4_isPlace 6 = .ok (.invokestatic 29, 3) := by decide +kernel
theorem dX4_isPlace_9 : decode cX4_isPlace 9 = .ok (.ifCond .eq 22, 3) := by decide +kernel
theorem dX4_isPlace_12 : decode cX4_isPlace 12 = .ok (.iload_n 2, 1) := by decide +kernel
theorem dX4_isPlace_13 : decode cX4_isPlace 13 = .ok (.iconst 0, 1) := by decide +kernel
theorem dX4_isPlace_14 : decode cX4_isPlace 14 = .ok (.aload_n 0, 1) := by decide +kernel
theorem dX4_isPlace_15 : decode cX4_isPlace 15 = .ok (.iload_n 1, 1) := by decide +kernel
theorem dX4_isPlace_16 : decode cX4_isPlace 16 = .ok (.invokevirtual 36, 3) := by decide +kernel
theorem dX4_isPlace_19 : decode cX4_isPlace 19 = .ok (.iconst 1, 1) := by decide +kernel
theorem dX4_isPlace_20 : decode cX4_isPlace 20 = .ok (.isub, 1) := by decide +kernel
theorem dX4_isPlace_21 : decode cX4_isPlace 21 = .ok (.invokestatic 29, 3) := by decide +kernel
theorem dX4_isPlace_24 : decode cX4_isPlace 24 = .ok (.ifCond .eq 7, 3) := by decide +kernel
theorem dX4_isPlace_27 : decode cX4_isPlace 27 = .ok (.iconst 1, 1) := by decide +kernel
theorem dX4_isPlace_28 : decode cX4_isPlace 28 = .ok (.goto 4, 3) := by decide +kernel
theorem dX4_isPlace_31 : decode cX4_isPlace 31 = .ok (.iconst 0, 1) := by decide +kernel
theorem dX4_isPlace_32 : decode cX4_isPlace 32 = .ok (.ireturn, 1) := by decide +kernel
theorem dX4_mayMend_0 : decode cX4_mayMend 0 = .ok (.aload_n 0, 1) := by decide +kernel
theorem dX4_mayMend_1 : decode cX4_mayMend 1 = .ok (.invokevirtual 80, 3) := by decide +kernel
theorem dX4_mayMend_4 : decode cX4_mayMend 4 = .ok (.ifCond .eq 48, 3) := by decide +kernel
theorem dX4_mayMend_7 : decode cX4_mayMend 7 = .ok (.aload_n 0, 1) := by decide +kernel
theorem dX4_mayMend_8 : decode cX4_mayMend 8 = .ok (.iload_n 1, 1) := by decide +kernel
theorem dX4_mayMend_9 : decode cX4_mayMend 9 = .ok (.iload_n 2, 1) := by decide +kernel
theorem dX4_mayMend_10 : decode cX4_mayMend 10 = .ok (.invokevirtual 40, 3) := by decide +kernel
theorem dX4_mayMend_13 : decode cX4_mayMend 13 = .ok (.ifCond .ne 39, 3) := by decide +kernel
theorem dX4_mayMend_16 : decode cX4_mayMend 16 = .ok (.aload_n 0, 1) := by decide +kernel
theorem dX4_mayMend_17 : decode cX4_mayMend 17 = .ok (.getfield 7, 3) := by decide +kernel
theorem dX4_mayMend_20 : decode cX4_mayMend 20 = .ok (.sipush 214, 3) := by decide +kernel
theorem dX4_mayMend_23 : decode cX4_mayMend 23 = .ok (.aload_n 0, 1) := by decide +kernel
theorem dX4_mayMend_24 : decode cX4_mayMend 24 = .ok (.getfield 7, 3) := by decide +kernel
theorem dX4_mayMend_27 : decode cX4_mayMend 27 = .ok (.bipush 14, 2) := by decide +kernel
theorem dX4_mayMend_29 : decode cX4_mayMend 29 = .ok (.iload_n 1, 1) := by decide +kernel
theorem dX4_mayMend_30 : decode cX4_mayMend 30 = .ok (.iadd, 1) := by decide +kernel
theorem dX4_mayMend_31 : decode cX4_mayMend 31 = .ok (.iaload, 1) := by decide +kernel
theorem dX4_mayMend_32 : decode cX4_mayMend 32 = .ok (.iadd, 1) := by decide +kernel
theorem dX4_mayMend_33 : decode cX4_mayMend 33 = .ok (.iaload, 1) := by decide +kernel
theorem dX4_mayMend_34 : decode cX4_mayMend 34 = .ok (.ifCond .le 18, 3) := by decide +kernel
theorem dX4_mayMend_37 : decode cX4_mayMend 37 = .ok (.aload_n 0, 1) := by decide +kernel
theorem dX4_mayMend_38 : decode cX4_mayMend 38 = .ok (.getfield 7, 3) := by decide +kernel
theorem dX4_mayMend_41 : decode cX4_mayMend 41 = .ok (.bipush 7, 2) := by decide +kernel
theorem dX4_mayMend_43 : decode cX4_mayMend 43 = .ok (.iaload, 1) := by decide +kernel
theorem dX4_mayMend_44 : decode cX4_mayMend 44 = .ok (.iconst 3, 1) := by decide +kernel
theorem dX4_mayMend_45 : decode cX4_mayMend 45 = .ok (.if_icmp .lt 7, 3) := by decide +kernel
theorem dX4_mayMend_48 : decode cX4_mayMend 48 = .ok (.iconst 1, 1) := by decide +kernel
theorem dX4_mayMend_49 : decode cX4_mayMend 49 = .ok (.goto 4, 3) := by decide +kernel
theorem dX4_mayMend_52 : decode cX4_mayMend 52 = .ok (.iconst 0, 1) := by decide +kernel
theorem dX4_mayMend_53 : decode cX4_mayMend 53 = .ok (.ireturn, 1) := by decide +kernel
theorem dX4_mend_0 : decode cX4_mend 0 = .ok (.aload_n 0, 1) := by decide +kernel
theorem dX4_mend_1 : decode cX4_mend 1 = .ok (.iconst 0, 1) := by decide +kernel
theorem dX4_mend_2 : decode cX4_mend 2 = .ok (.putfield 25, 3) := by decide +kernel
theorem dX4_mend_5 : decode cX4_mend 5 = .ok (.aload_n 0, 1) := by decide +kernel
theorem dX4_mend_6 : decode cX4_mend 6 = .ok (.iload_n 1, 1) := by decide +kernel
theorem dX4_mend_7 : decode cX4_mend 7 = .ok (.iload_n 2, 1) := by decide +kernel
theorem dX4_mend_8 : decode cX4_mend 8 = .ok (.invokevirtual 101, 3) := by decide +kernel
theorem dX4_mend_11 : decode cX4_mend 11 = .ok (.ifCond .ne 9, 3) := by decide +kernel
theorem dX4_mend_14 : decode cX4_mend 14 = .ok (.aload_n 0, 1) := by decide +kernel
theorem dX4_mend_15 : decode cX4_mend 15 = .ok (.iconst 1, 1) := by decide +kernel
theorem dX4_mend_16 : decode cX4_mend 16 = .ok (.invokevirtual 60, 3) := by decide +kernel
theorem dX4_mend_19 : decode cX4_mend 19 = .ok (.ireturn, 1) := by decide +kernel
theorem dX4_mend_20 : decode cX4_mend 20 = .ok (.aload_n 0, 1) := by decide +kernel
theorem dX4_mend_21 : decode cX4_mend 21 = .ok (.iload_n 1, 1) := by decide +kernel
theorem dX4_mend_22 : decode cX4_mend 22 = .ok (.iload_n 2, 1) := by decide +kernel
theorem dX4_mend_23 : decode cX4_mend 23 = .ok (.invokevirtual 104, 3) := by decide +kernel
theorem dX4_mend_26 : decode cX4_mend 26 = .ok (.ifCond .ne 9, 3) := by decide +kernel
theorem dX4_mend_29 : decode cX4_mend 29 = .ok (.aload_n 0, 1) := by decide +kernel
theorem dX4_mend_30 : decode cX4_mend 30 = .ok (.iconst 2, 1) := by decide +kernel
theorem dX4_mend_31 : decode cX4_mend 31 = .ok (.invokevirtual 60, 3) := by decide +kernel
theorem dX4_mend_34 : decode cX4_mend 34 = .ok (.ireturn, 1) := by decide +kernel
theorem dX4_mend_35 : decode cX4_mend 35 = .ok (.aload_n 0, 1) := by decide +kernel
theorem dX4_mend_36 : decode cX4_mend 36 = .ok (.invokevirtual 63, 3) := by decide +kernel
theorem dX4_mend_39 : decode cX4_mend 39 = .ok (.aload_n 0, 1) := by decide +kernel
theorem dX4_mend_40 : decode cX4_mend 40 = .ok (.iload_n 1, 1) := by decide +kernel
theorem dX4_mend_41 : decode cX4_mend 41 = .ok (.iload_n 2, 1) := by decide +kernel
theorem dX4_mend_42 : decode cX4_mend 42 = .ok (.iconst 3, 1) := by decide +kernel
theorem dX4_mend_43 : decode cX4_mend 43 = .ok (.invokevirtual 97, 3) := by decide +kernel
theorem dX4_mend_46 : decode cX4_mend 46 = .ok (.aload_n 0, 1) := by decide +kernel
theorem dX4_mend_47 : decode cX4_mend 47 = .ok (.getfield 7, 3) := by decide +kernel
theorem dX4_mend_50 : decode cX4_mend 50 = .ok (.bipush 7, 2) := by decide +kernel
theorem dX4_mend_52 : decode cX4_mend 52 = .ok (.iaload, 1) := by decide +kernel
theorem dX4_mend_53 : decode cX4_mend 53 = .ok (.ireturn, 1) := by decide +kernel
theorem dX4_cover_0 : decode cX4_cover 0 = .ok (.aload_n 0, 1) := by decide +kernel
theorem dX4_cover_1 : decode cX4_cover 1 = .ok (.iconst 0, 1) := by decide +kernel
theorem dX4_cover_2 : decode cX4_cover 2 = .ok (.putfield 25, 3) := by decide +kernel
theorem dX4_cover_5 : decode cX4_cover 5 = .ok (.aload_n 0, 1) := by decide +kernel
theorem dX4_cover_6 : decode cX4_cover 6 = .ok (.invokevirtual 63, 3) := by decide +kernel
theorem dX4_cover_9 : decode cX4_cover 9 = .ok (.aload_n 0, 1) := by decide +kernel
theorem dX4_cover_10 : decode cX4_cover 10 = .ok (.getfield 7, 3) := by decide +kernel
theorem dX4_cover_13 : decode cX4_cover 13 = .ok (.bipush 9, 2) := by decide +kernel
theorem dX4_cover_15 : decode cX4_cover 15 = .ok (.iaload, 1) := by decide +kernel
theorem dX4_cover_16 : decode cX4_cover 16 = .ok (.istore_n 2, 1) := by decide +kernel
theorem dX4_cover_17 : decode cX4_cover 17 = .ok (.aload_n 0, 1) := by decide +kernel
theorem dX4_cover_18 : decode cX4_cover 18 = .ok (.getfield 7, 3) := by decide +kernel
theorem dX4_cover_21 : decode cX4_cover 21 = .ok (.bipush 9, 2) := by decide +kernel
theorem dX4_cover_23 : decode cX4_cover 23 = .ok (.iload_n 1, 1) := by decide +kernel
theorem dX4_cover_24 : decode cX4_cover 24 = .ok (.ifCond .eq 7, 3) := by decide +kernel
theorem dX4_cover_27 : decode cX4_cover 27 = .ok (.iconst 1, 1) := by decide +kernel
theorem dX4_cover_28 : decode cX4_cover 28 = .ok (.goto 4, 3) := by decide +kernel
theorem dX4_cover_31 : decode cX4_cover 31 = .ok (.iconst 0, 1) := by decide +kernel
theorem dX4_cover_32 : decode cX4_cover 32 = .ok (.iastore, 1) := by decide +kernel
theorem dX4_cover_33 : decode cX4_cover 33 = .ok (.iload_n 2, 1) := by decide +kernel
theorem dX4_cover_34 : decode cX4_cover 34 = .ok (.ireturn, 1) := by decide +kernel
theorem dX4_fall_0 : decode cX4_fall 0 = .ok (.iconst 0, 1) := by decide +kernel
theorem dX4_fall_1 : decode cX4_fall 1 = .ok (.istore_n 3, 1) := by decide +kernel
theorem dX4_fall_2 : decode cX4_fall 2 = .ok (.iconst 0, 1) := by decide +kernel
theorem dX4_fall_3 : decode cX4_fall 3 = .ok (.istore 4, 2) := by decide +kernel
theorem dX4_fall_5 : decode cX4_fall 5 = .ok (.iload 4, 2) := by decide +kernel
theorem dX4_fall_7 : decode cX4_fall 7 = .ok (.aload_n 0, 1) := by decide +kernel
theorem dX4_fall_8 : decode cX4_fall 8 = .ok (.iload_n 1, 1) := by decide +kernel
theorem dX4_fall_9 : decode cX4_fall 9 = .ok (.invokevirtual 36, 3) := by decide +kernel
theorem dX4_fall_12 : decode cX4_fall 12 = .ok (.if_icmp .ge 70, 3) := by decide +kernel
theorem dX4_fall_15 : decode cX4_fall 15 = .ok (.iload 4, 2) := by decide +kernel
theorem dX4_fall_17 : decode cX4_fall 17 = .ok (.iconst 5, 1) := by decide +kernel
theorem dX4_fall_18 : decode cX4_fall 18 = .ok (.irem, 1) := by decide +kernel
theorem dX4_fall_19 : decode cX4_fall 19 = .ok (.iload_n 2, 1) := by decide +kernel
theorem dX4_fall_20 : decode cX4_fall 20 = .ok (.if_icmp .ne 56, 3) := by decide +kernel
theorem dX4_fall_23 : decode cX4_fall 23 = .ok (.aload_n 0, 1) := by decide +kernel
theorem dX4_fall_24 : decode cX4_fall 24 = .ok (.iload_n 1, 1) := by decide +kernel
theorem dX4_fall_25 : decode cX4_fall 25 = .ok (.iload 4, 2) := by decide +kernel
theorem dX4_fall_27 : decode cX4_fall 27 = .ok (.invokevirtual 40, 3) := by decide +kernel
theorem dX4_fall_30 : decode cX4_fall 30 = .ok (.ifCond .eq 46, 3) := by decide +kernel
theorem dX4_fall_33 : decode cX4_fall 33 = .ok (.aload_n 0, 1) := by decide +kernel
theorem dX4_fall_34 : decode cX4_fall 34 = .ok (.getfield 7, 3) := by decide +kernel
theorem dX4_fall_37 : decode cX4_fall 37 = .ok (.bipush 114, 2) := by decide +kernel
theorem dX4_fall_39 : decode cX4_fall 39 = .ok (.iload_n 1, 1) := by decide +kernel
theorem dX4_fall_40 : decode cX4_fall 40 = .ok (.iadd, 1) := by decide +kernel
theorem dX4_fall_41 : decode cX4_fall 41 = .ok (.dup2, 1) := by decide +kernel
theorem dX4_fall_42 : decode cX4_fall 42 = .ok (.iaload, 1) := by decide +kernel
theorem dX4_fall_43 : decode cX4_fall 43 = .ok (.iconst 1, 1) := by decide +kernel
theorem dX4_fall_44 : decode cX4_fall 44 = .ok (.iload 4, 2) := by decide +kernel
theorem dX4_fall_46 : decode cX4_fall 46 = .ok (.ishl, 1) := by decide +kernel
theorem dX4_fall_47 : decode cX4_fall 47 = .ok (.iconst (-1), 1) := by decide +kernel
theorem dX4_fall_48 : decode cX4_fall 48 = .ok (.ixor, 1) := by decide +kernel
theorem dX4_fall_49 : decode cX4_fall 49 = .ok (.iand, 1) := by decide +kernel
theorem dX4_fall_50 : decode cX4_fall 50 = .ok (.iastore, 1) := by decide +kernel
theorem dX4_fall_51 : decode cX4_fall 51 = .ok (.aload_n 0, 1) := by decide +kernel
theorem dX4_fall_52 : decode cX4_fall 52 = .ok (.getfield 7, 3) := by decide +kernel
theorem dX4_fall_55 : decode cX4_fall 55 = .ok (.sipush 239, 3) := by decide +kernel
theorem dX4_fall_58 : decode cX4_fall 58 = .ok (.aload_n 0, 1) := by decide +kernel
theorem dX4_fall_59 : decode cX4_fall 59 = .ok (.getfield 7, 3) := by decide +kernel
theorem dX4_fall_62 : decode cX4_fall 62 = .ok (.bipush 14, 2) := by decide +kernel
theorem dX4_fall_64 : decode cX4_fall 64 = .ok (.iload_n 1, 1) := by decide +kernel
theorem dX4_fall_65 : decode cX4_fall 65 = .ok (.iadd, 1) := by decide +kernel
theorem dX4_fall_66 : decode cX4_fall 66 = .ok (.iaload, 1) := by decide +kernel
theorem dX4_fall_67 : decode cX4_fall 67 = .ok (.iadd, 1) := by decide +kernel
theorem dX4_fall_68 : decode cX4_fall 68 = .ok (.dup2, 1) := by decide +kernel
theorem dX4_fall_69 : decode cX4_fall 69 = .ok (.iaload, 1) := by decide +kernel
theorem dX4_fall_70 : decode cX4_fall 70 = .ok (.iconst 1, 1) := by decide +kernel
theorem dX4_fall_71 : decode cX4_fall 71 = .ok (.iadd, 1) := by decide +kernel
theorem dX4_fall_72 : decode cX4_fall 72 = .ok (.iastore, 1) := by decide +kernel
theorem dX4_fall_73 : decode cX4_fall 73 = .ok (.iinc 3 1, 3) := by decide +kernel
theorem dX4_fall_76 : decode cX4_fall 76 = .ok (.iinc 4 1, 3) := by decide +kernel
theorem dX4_fall_79 : decode cX4_fall 79 = .ok (.goto (-74), 3) := by decide +kernel
theorem dX4_fall_82 : decode cX4_fall 82 = .ok (.iload_n 3, 1) := by decide +kernel
theorem dX4_fall_83 : decode cX4_fall 83 = .ok (.ireturn, 1) := by decide +kernel
theorem dX4_goDay_0 : decode cX4_goDay 0 = .ok (.aload_n 0, 1) := by decide +kernel
theorem dX4_goDay_1 : decode cX4_goDay 1 = .ok (.getfield 7, 3) := by decide +kernel
theorem dX4_goDay_4 : decode cX4_goDay 4 = .ok (.bipush 6, 2) := by decide +kernel
theorem dX4_goDay_6 : decode cX4_goDay 6 = .ok (.dup2, 1) := by decide +kernel
theorem dX4_goDay_7 : decode cX4_goDay 7 = .ok (.iaload, 1) := by decide +kernel
theorem dX4_goDay_8 : decode cX4_goDay 8 = .ok (.iconst 1, 1) := by decide +kernel
theorem dX4_goDay_9 : decode cX4_goDay 9 = .ok (.iadd, 1) := by decide +kernel
theorem dX4_goDay_10 : decode cX4_goDay 10 = .ok (.iastore, 1) := by decide +kernel
theorem dX4_goDay_11 : decode cX4_goDay 11 = .ok (.aload_n 0, 1) := by decide +kernel
theorem dX4_goDay_12 : decode cX4_goDay 12 = .ok (.getfield 7, 3) := by decide +kernel
theorem dX4_goDay_15 : decode cX4_goDay 15 = .ok (.bipush 9, 2) := by decide +kernel
theorem dX4_goDay_17 : decode cX4_goDay 17 = .ok (.iaload, 1) := by decide +kernel
theorem dX4_goDay_18 : decode cX4_goDay 18 = .ok (.ifCond .ne 7, 3) := by decide +kernel
theorem dX4_goDay_21 : decode cX4_goDay 21 = .ok (.iconst 1, 1) := by decide +kernel
theorem dX4_goDay_22 : decode cX4_goDay 22 = .ok (.goto 4, 3) := by decide +kernel
theorem dX4_goDay_25 : decode cX4_goDay 25 = .ok (.iconst 0, 1) := by decide +kernel
theorem dX4_goDay_26 : decode cX4_goDay 26 = .ok (.istore_n 2, 1) := by decide +kernel
theorem dX4_goDay_27 : decode cX4_goDay 27 = .ok (.iload_n 1, 1) := by decide +kernel
theorem dX4_goDay_28 : decode cX4_goDay 28 = .ok (.ifCond .eq 30, 3) := by decide +kernel
theorem dX4_goDay_31 : decode cX4_goDay 31 = .ok (.iload_n 2, 1) := by decide +kernel
theorem dX4_goDay_32 : decode cX4_goDay 32 = .ok (.ifCond .eq 26, 3) := by decide +kernel
theorem dX4_goDay_35 : decode cX4_goDay 35 = .ok (.aload_n 0, 1) := by decide +kernel
theorem dX4_goDay_36 : decode cX4_goDay 36 = .ok (.invokevirtual 107, 3) := by decide +kernel
theorem dX4_goDay_39 : decode cX4_goDay 39 = .ok (.ifCond .ne 19, 3) := by decide +kernel
theorem dX4_goDay_42 : decode cX4_goDay 42 = .ok (.aload_n 0, 1) := by decide +kernel
theorem dX4_goDay_43 : decode cX4_goDay 43 = .ok (.getfield 7, 3) := by decide +kernel
theorem dX4_goDay_46 : decode cX4_goDay 46 = .ok (.bipush 8, 2) := by decide +kernel
theorem dX4_goDay_48 : decode cX4_goDay 48 = .ok (.aload_n 0, 1) := by decide +kernel
theorem dX4_goDay_49 : decode cX4_goDay 49 = .ok (.getfield 7, 3) := by decide +kernel
theorem dX4_goDay_52 : decode cX4_goDay 52 = .ok (.iconst 5, 1) := by decide +kernel
theorem dX4_goDay_53 : decode cX4_goDay 53 = .ok (.iaload, 1) := by decide +kernel
theorem dX4_goDay_54 : decode cX4_goDay 54 = .ok (.iastore, 1) := by decide +kernel
theorem dX4_goDay_55 : decode cX4_goDay 55 = .ok (.goto 28, 3) := by decide +kernel
theorem dX4_goDay_58 : decode cX4_goDay 58 = .ok (.iload_n 1, 1) := by decide +kernel
theorem dX4_goDay_59 : decode cX4_goDay 59 = .ok (.ifCond .ne 24, 3) := by decide +kernel
theorem dX4_goDay_62 : decode cX4_goDay 62 = .ok (.aload_n 0, 1) := by decide +kernel
theorem dX4_goDay_63 : decode cX4_goDay 63 = .ok (.getfield 7, 3) := by decide +kernel
theorem dX4_goDay_66 : decode cX4_goDay 66 = .ok (.bipush 8, 2) := by decide +kernel
theorem dX4_goDay_68 : decode cX4_goDay 68 = .ok (.iaload, 1) := by decide +kernel
theorem dX4_goDay_69 : decode cX4_goDay 69 = .ok (.ifCond .le 14, 3) := by decide +kernel
theorem dX4_goDay_72 : decode cX4_goDay 72 = .ok (.aload_n 0, 1) := by decide +kernel
theorem dX4_goDay_73 : decode cX4_goDay 73 = .ok (.getfield 7, 3) := by decide +kernel
theorem dX4_goDay_76 : decode cX4_goDay 76 = .ok (.bipush 8, 2) := by decide +kernel
theorem dX4_goDay_78 : decode cX4_goDay 78 = .ok (.dup2, 1) := by decide +kernel
theorem dX4_goDay_79 : decode cX4_goDay 79 = .ok (.iaload, 1) := by decide +kernel
theorem dX4_goDay_80 : decode cX4_goDay 80 = .ok (.iconst 1, 1) := by decide +kernel
theorem dX4_goDay_81 : decode cX4_goDay 81 = .ok (.isub, 1) := by decide +kernel
theorem dX4_goDay_82 : decode cX4_goDay 82 = .ok (.iastore, 1) := by decide +kernel
theorem dX4_goDay_83 : decode cX4_goDay 83 = .ok (.iconst 0, 1) := by decide +kernel
theorem dX4_goDay_84 : decode cX4_goDay 84 = .ok (.istore_n 3, 1) := by decide +kernel
theorem dX4_goDay_85 : decode cX4_goDay 85 = .ok (.iload_n 1, 1) := by decide +kernel
theorem dX4_goDay_86 : decode cX4_goDay 86 = .ok (.iconst 2, 1) := by decide +kernel
theorem dX4_goDay_87 : decode cX4_goDay 87 = .ok (.if_icmp .ne 78, 3) := by decide +kernel
theorem dX4_goDay_90 : decode cX4_goDay 90 = .ok (.iload_n 2, 1) := by decide +kernel
theorem dX4_goDay_91 : decode cX4_goDay 91 = .ok (.ifCond .eq 74, 3) := by decide +kernel
theorem dX4_goDay_94 : decode cX4_goDay 94 = .ok (.iload_n 3, 1) := by decide +kernel
theorem dX4_goDay_95 : decode cX4_goDay 95 = .ok (.aload_n 0, 1) := by decide +kernel
theorem dX4_goDay_96 : decode cX4_goDay 96 = .ok (.getfield 7, 3) := by decide +kernel
theorem dX4_goDay_99 : decode cX4_goDay 99 = .ok (.iconst 2, 1) := by decide +kernel
theorem dX4_goDay_100 : decode cX4_goDay 100 = .ok (.iaload, 1) := by decide +kernel
theorem dX4_goDay_101 : decode cX4_goDay 101 = .ok (.ifCond .le 23, 3) := by decide +kernel
theorem dX4_goDay_104 : decode cX4_goDay 104 = .ok (.aload_n 0, 1) := by decide +kernel
theorem dX4_goDay_105 : decode cX4_goDay 105 = .ok (.aload_n 0, 1) := by decide +kernel
theorem dX4_goDay_106 : decode cX4_goDay 106 = .ok (.invokevirtual 87, 3) := by decide +kernel
theorem dX4_goDay_109 : decode cX4_goDay 109 = .ok (.aload_n 0, 1) := by decide +kernel
theorem dX4_goDay_110 : decode cX4_goDay 110 = .ok (.getfield 7, 3) := by decide +kernel
theorem dX4_goDay_113 : decode cX4_goDay 113 = .ok (.bipush 6, 2) := by decide +kernel
theorem dX4_goDay_115 : decode cX4_goDay 115 = .ok (.iaload, 1) := by decide +kernel
theorem dX4_goDay_116 : decode cX4_goDay 116 = .ok (.iconst 5, 1) := by decide +kernel
theorem dX4_goDay_117 : decode cX4_goDay 117 = .ok (.irem, 1) := by decide +kernel
theorem dX4_goDay_118 : decode cX4_goDay 118 = .ok (.invokevirtual 110, 3) := by decide +kernel
theorem dX4_goDay_121 : decode cX4_goDay 121 = .ok (.goto 4, 3) := by decide +kernel
theorem dX4_goDay_124 : decode cX4_goDay 124 = .ok (.iconst 0, 1) := by decide +kernel
theorem dX4_goDay_125 : decode cX4_goDay 125 = .ok (.iadd, 1) := by decide +kernel
theorem dX4_goDay_126 : decode cX4_goDay 126 = .ok (.istore_n 3, 1) := by decide +kernel
theorem dX4_goDay_127 : decode cX4_goDay 127 = .ok (.iload_n 3, 1) := by decide +kernel
theorem dX4_goDay_128 : decode cX4_goDay 128 = .ok (.aload_n 0, 1) := by decide +kernel
theorem dX4_goDay_129 : decode cX4_goDay 129 = .ok (.getfield 7, 3) := by decide +kernel
theorem dX4_goDay_132 : decode cX4_goDay 132 = .ok (.iconst 2, 1) := by decide +kernel
theorem dX4_goDay_133 : decode cX4_goDay 133 = .ok (.iaload, 1) := by decide +kernel
theorem dX4_goDay_134 : decode cX4_goDay 134 = .ok (.iconst 1, 1) := by decide +kernel
theorem dX4_goDay_135 : decode cX4_goDay 135 = .ok (.if_icmp .le 27, 3) := by decide +kernel
theorem dX4_goDay_138 : decode cX4_goDay 138 = .ok (.aload_n 0, 1) := by decide +kernel
theorem dX4_goDay_139 : decode cX4_goDay 139 = .ok (.aload_n 0, 1) := by decide +kernel
theorem dX4_goDay_140 : decode cX4_goDay 140 = .ok (.invokevirtual 87, 3) := by decide +kernel
theorem dX4_goDay_143 : decode cX4_goDay 143 = .ok (.iconst 1, 1) := by decide +kernel
theorem dX4_goDay_144 : decode cX4_goDay 144 = .ok (.isub, 1) := by decide +kernel
theorem dX4_goDay_145 : decode cX4_goDay 145 = .ok (.aload_n 0, 1) := by decide +kernel
theorem dX4_goDay_146 : decode cX4_goDay 146 = .ok (.getfield 7, 3) := by decide +kernel
theorem dX4_goDay_149 : decode cX4_goDay 149 = .ok (.bipush 6, 2) := by decide +kernel
theorem dX4_goDay_151 : decode cX4_goDay 151 = .ok (.iaload, 1) := by decide +kernel
theorem dX4_goDay_152 : decode cX4_goDay 152 = .ok (.iconst 2, 1) := by decide +kernel
theorem dX4_goDay_153 : decode cX4_goDay 153 = .ok (.iadd, 1) := by decide +kernel
theorem dX4_goDay_154 : decode cX4_goDay 154 = .ok (.iconst 5, 1) := by decide +kernel
theorem dX4_goDay_155 : decode cX4_goDay 155 = .ok (.irem, 1) := by decide +kernel
theorem dX4_goDay_156 : decode cX4_goDay 156 = .ok (.invokevirtual 110, 3) := by decide +kernel
theorem dX4_goDay_159 : decode cX4_goDay 159 = .ok (.goto 4, 3) := by decide +kernel
theorem dX4_goDay_162 : decode cX4_goDay 162 = .ok (.iconst 0, 1) := by decide +kernel
theorem dX4_goDay_163 : decode cX4_goDay 163 = .ok (.iadd, 1) := by decide +kernel
theorem dX4_goDay_164 : decode cX4_goDay 164 = .ok (.istore_n 3, 1) := by decide +kernel
theorem dX4_goDay_165 : decode cX4_goDay 165 = .ok (.aload_n 0, 1) := by decide +kernel
theorem dX4_goDay_166 : decode cX4_goDay 166 = .ok (.getfield 7, 3) := by decide +kernel
theorem dX4_goDay_169 : decode cX4_goDay 169 = .ok (.bipush 7, 2) := by decide +kernel
theorem dX4_goDay_171 : decode cX4_goDay 171 = .ok (.aload_n 0, 1) := by decide +kernel
theorem dX4_goDay_172 : decode cX4_goDay 172 = .ok (.getfield 7, 3) := by decide +kernel
theorem dX4_goDay_175 : decode cX4_goDay 175 = .ok (.iconst 4, 1) := by decide +kernel
theorem dX4_goDay_176 : decode cX4_goDay 176 = .ok (.iaload, 1) := by decide +kernel
theorem dX4_goDay_177 : decode cX4_goDay 177 = .ok (.iastore, 1) := by decide +kernel
theorem dX4_goDay_178 : decode cX4_goDay 178 = .ok (.iload_n 3, 1) := by decide +kernel
theorem dX4_goDay_179 : decode cX4_goDay 179 = .ok (.ireturn, 1) := by decide +kernel
theorem dX4_pass_0 : decode cX4_pass 0 = .ok (.aload_n 0, 1) := by decide +kernel
theorem dX4_pass_1 : decode cX4_pass 1 = .ok (.iconst 0, 1) := by decide +kernel
theorem dX4_pass_2 : decode cX4_pass 2 = .ok (.putfield 25, 3) := by decide +kernel
theorem dX4_pass_5 : decode cX4_pass 5 = .ok (.iload_n 1, 1) := by decide +kernel
theorem dX4_pass_6 : decode cX4_pass 6 = .ok (.iconst 0, 1) := by decide +kernel
theorem dX4_pass_7 : decode cX4_pass 7 = .ok (.iconst 2, 1) := by decide +kernel
theorem dX4_pass_8 : decode cX4_pass 8 = .ok (.invokestatic 29, 3) := by decide +kernel
theorem dX4_pass_11 : decode cX4_pass 11 = .ok (.ifCond .ne 9, 3) := by decide +kernel
theorem dX4_pass_14 : decode cX4_pass 14 = .ok (.aload_n 0, 1) := by decide +kernel
theorem dX4_pass_15 : decode cX4_pass 15 = .ok (.iconst 1, 1) := by decide +kernel
theorem dX4_pass_16 : decode cX4_pass 16 = .ok (.invokevirtual 60, 3) := by decide +kernel
theorem dX4_pass_19 : decode cX4_pass 19 = .ok (.ireturn, 1) := by decide +kernel
theorem dX4_pass_20 : decode cX4_pass 20 = .ok (.aload_n 0, 1) := by decide +kernel
theorem dX4_pass_21 : decode cX4_pass 21 = .ok (.getfield 7, 3) := by decide +kernel
theorem dX4_pass_24 : decode cX4_pass 24 = .ok (.bipush 6, 2) := by decide +kernel
theorem dX4_pass_26 : decode cX4_pass 26 = .ok (.iaload, 1) := by decide +kernel
theorem dX4_pass_27 : decode cX4_pass 27 = .ok (.sipush 1000, 3) := by decide +kernel
theorem dX4_pass_30 : decode cX4_pass 30 = .ok (.if_icmp .lt 9, 3) := by decide +kernel
theorem dX4_pass_33 : decode cX4_pass 33 = .ok (.aload_n 0, 1) := by decide +kernel
theorem dX4_pass_34 : decode cX4_pass 34 = .ok (.iconst 2, 1) := by decide +kernel
theorem dX4_pass_35 : decode cX4_pass 35 = .ok (.invokevirtual 60, 3) := by decide +kernel
theorem dX4_pass_38 : decode cX4_pass 38 = .ok (.ireturn, 1) := by decide +kernel
theorem dX4_pass_39 : decode cX4_pass 39 = .ok (.aload_n 0, 1) := by decide +kernel
theorem dX4_pass_40 : decode cX4_pass 40 = .ok (.invokevirtual 63, 3) := by decide +kernel
theorem dX4_pass_43 : decode cX4_pass 43 = .ok (.aload_n 0, 1) := by decide +kernel
theorem dX4_pass_44 : decode cX4_pass 44 = .ok (.iload_n 1, 1) := by decide +kernel
theorem dX4_pass_45 : decode cX4_pass 45 = .ok (.invokevirtual 114, 3) := by decide +kernel
theorem dX4_pass_48 : decode cX4_pass 48 = .ok (.ireturn, 1) := by decide +kernel
theorem dX4_openCourse_0 : decode cX4_openCourse 0 = .ok (.iconst 0, 1) := by decide +kernel
theorem dX4_openCourse_1 : decode cX4_openCourse 1 = .ok (.istore_n 1, 1) := by decide +kernel
theorem dX4_openCourse_2 : decode cX4_openCourse 2 = .ok (.iload_n 1, 1) := by decide +kernel
theorem dX4_openCourse_3 : decode cX4_openCourse 3 = .ok (.aload_n 0, 1) := by decide +kernel
theorem dX4_openCourse_4 : decode cX4_openCourse 4 = .ok (.invokevirtual 87, 3) := by decide +kernel
theorem dX4_openCourse_7 : decode cX4_openCourse 7 = .ok (.if_icmp .ge 20, 3) := by decide +kernel
theorem dX4_openCourse_10 : decode cX4_openCourse 10 = .ok (.aload_n 0, 1) := by decide +kernel
theorem dX4_openCourse_11 : decode cX4_openCourse 11 = .ok (.iload_n 1, 1) := by decide +kernel
theorem dX4_openCourse_12 : decode cX4_openCourse 12 = .ok (.invokevirtual 90, 3) := by decide +kernel
theorem dX4_openCourse_15 : decode cX4_openCourse 15 = .ok (.iconst (-1), 1) := by decide +kernel
theorem dX4_openCourse_16 : decode cX4_openCourse 16 = .ok (.if_icmp .eq 5, 3) := by decide +kernel
theorem dX4_openCourse_19 : decode cX4_openCourse 19 = .ok (.iload_n 1, 1) := by decide +kernel
theorem dX4_openCourse_20 : decode cX4_openCourse 20 = .ok (.ireturn, 1) := by decide +kernel
theorem dX4_openCourse_21 : decode cX4_openCourse 21 = .ok (.iinc 1 1, 3) := by decide +kernel
theorem dX4_openCourse_24 : decode cX4_openCourse 24 = .ok (.goto (-22), 3) := by decide +kernel
theorem dX4_openCourse_27 : decode cX4_openCourse 27 = .ok (.iconst (-1), 1) := by decide +kernel
theorem dX4_openCourse_28 : decode cX4_openCourse 28 = .ok (.ireturn, 1) := by decide +kernel
theorem dX4_nextLength_0 : decode cX4_nextLength 0 = .ok (.iconst (-1), 1) := by decide +kernel
theorem dX4_nextLength_1 : decode cX4_nextLength 1 = .ok (.istore_n 1, 1) := by decide +kernel
theorem dX4_nextLength_2 : decode cX4_nextLength 2 = .ok (.bipush 8, 2) := by decide +kernel
theorem dX4_nextLength_4 : decode cX4_nextLength 4 = .ok (.istore_n 2, 1) := by decide +kernel
theorem dX4_nextLength_5 : decode cX4_nextLength 5 = .ok (.iload_n 2, 1) := by decide +kernel
theorem dX4_nextLength_6 : decode cX4_nextLength 6 = .ok (.aload_n 0, 1) := by decide +kernel
theorem dX4_nextLength_7 : decode cX4_nextLength 7 = .ok (.invokevirtual 84, 3) := by decide +kernel
theorem dX4_nextLength_10 : decode cX4_nextLength 10 = .ok (.if_icmp .gt 38, 3) := by decide +kernel
theorem dX4_nextLength_13 : decode cX4_nextLength 13 = .ok (.aload_n 0, 1) := by decide +kernel
theorem dX4_nextLength_14 : decode cX4_nextLength 14 = .ok (.getfield 7, 3) := by decide +kernel
theorem dX4_nextLength_17 : decode cX4_nextLength 17 = .ok (.sipush 214, 3) := by decide +kernel
theorem dX4_nextLength_20 : decode cX4_nextLength 20 = .ok (.iload_n 2, 1) := by decide +kernel
theorem dX4_nextLength_21 : decode cX4_nextLength 21 = .ok (.iadd, 1) := by decide +kernel
theorem dX4_nextLength_22 : decode cX4_nextLength 22 = .ok (.iaload, 1) := by decide +kernel
theorem dX4_nextLength_23 : decode cX4_nextLength 23 = .ok (.aload_n 0, 1) := by decide +kernel
theorem dX4_nextLength_24 : decode cX4_nextLength 24 = .ok (.aload_n 0, 1) := by decide +kernel
theorem dX4_nextLength_25 : decode cX4_nextLength 25 = .ok (.getfield 7, 3) := by decide +kernel
theorem dX4_nextLength_28 : decode cX4_nextLength 28 = .ok (.iconst 2, 1) := by decide +kernel
theorem dX4_nextLength_29 : decode cX4_nextLength 29 = .ok (.iaload, 1) := by decide +kernel
theorem dX4_nextLength_30 : decode cX4_nextLength 30 = .ok (.invokevirtual 36, 3) := by decide +kernel
theorem dX4_nextLength_33 : decode cX4_nextLength 33 = .ok (.if_icmp .lt 7, 3) := by decide +kernel
theorem dX4_nextLength_36 : decode cX4_nextLength 36 = .ok (.iload_n 2, 1) := by decide +kernel
theorem dX4_nextLength_37 : decode cX4_nextLength 37 = .ok (.goto 4, 3) := by decide +kernel
theorem dX4_nextLength_40 : decode cX4_nextLength 40 = .ok (.iload_n 1, 1) := by decide +kernel
theorem dX4_nextLength_41 : decode cX4_nextLength 41 = .ok (.istore_n 1, 1) := by decide +kernel
theorem dX4_nextLength_42 : decode cX4_nextLength 42 = .ok (.iinc 2 1, 3) := by decide +kernel
theorem dX4_nextLength_45 : decode cX4_nextLength 45 = .ok (.goto (-40), 3) := by decide +kernel
theorem dX4_nextLength_48 : decode cX4_nextLength 48 = .ok (.iload_n 1, 1) := by decide +kernel
theorem dX4_nextLength_49 : decode cX4_nextLength 49 = .ok (.ireturn, 1) := by decide +kernel
theorem dX4_step_0 : decode cX4_step 0 = .ok (.aload_n 0, 1) := by decide +kernel
theorem dX4_step_1 : decode cX4_step 1 = .ok (.invokevirtual 117, 3) := by decide +kernel
theorem dX4_step_4 : decode cX4_step 4 = .ok (.istore_n 1, 1) := by decide +kernel
theorem dX4_step_5 : decode cX4_step 5 = .ok (.iload_n 1, 1) := by decide +kernel
theorem dX4_step_6 : decode cX4_step 6 = .ok (.iconst (-1), 1) := by decide +kernel
theorem dX4_step_7 : decode cX4_step 7 = .ok (.if_icmp .eq 29, 3) := by decide +kernel
theorem dX4_step_10 : decode cX4_step 10 = .ok (.aload_n 0, 1) := by decide +kernel
theorem dX4_step_11 : decode cX4_step 11 = .ok (.iload_n 1, 1) := by decide +kernel
theorem dX4_step_12 : decode cX4_step 12 = .ok (.aload_n 0, 1) := by decide +kernel
theorem dX4_step_13 : decode cX4_step 13 = .ok (.iload_n 1, 1) := by decide +kernel
theorem dX4_step_14 : decode cX4_step 14 = .ok (.invokevirtual 90, 3) := by decide +kernel
theorem dX4_step_17 : decode cX4_step 17 = .ok (.invokevirtual 104, 3) := by decide +kernel
theorem dX4_step_20 : decode cX4_step 20 = .ok (.ifCond .eq 16, 3) := by decide +kernel
theorem dX4_step_23 : decode cX4_step 23 = .ok (.aload_n 0, 1) := by decide +kernel
theorem dX4_step_24 : decode cX4_step 24 = .ok (.iload_n 1, 1) := by decide +kernel
theorem dX4_step_25 : decode cX4_step 25 = .ok (.aload_n 0, 1) := by decide +kernel
theorem dX4_step_26 : decode cX4_step 26 = .ok (.iload_n 1, 1) := by decide +kernel
theorem dX4_step_27 : decode cX4_step 27 = .ok (.invokevirtual 90, 3) := by decide +kernel
theorem dX4_step_30 : decode cX4_step 30 = .ok (.iconst 3, 1) := by decide +kernel
theorem dX4_step_31 : decode cX4_step 31 = .ok (.invokevirtual 97, 3) := by decide +kernel
theorem dX4_step_34 : decode cX4_step 34 = .ok (.iconst 1, 1) := by decide +kernel
theorem dX4_step_35 : decode cX4_step 35 = .ok (.ireturn, 1) := by decide +kernel
theorem dX4_step_36 : decode cX4_step 36 = .ok (.aload_n 0, 1) := by decide +kernel
theorem dX4_step_37 : decode cX4_step 37 = .ok (.invokevirtual 87, 3) := by decide +kernel
theorem dX4_step_40 : decode cX4_step 40 = .ok (.istore_n 2, 1) := by decide +kernel
theorem dX4_step_41 : decode cX4_step 41 = .ok (.iload_n 2, 1) := by decide +kernel
theorem dX4_step_42 : decode cX4_step 42 = .ok (.ifCond .ge 7, 3) := by decide +kernel
theorem dX4_step_45 : decode cX4_step 45 = .ok (.iconst (-1), 1) := by decide +kernel
theorem dX4_step_46 : decode cX4_step 46 = .ok (.goto 8, 3) := by decide +kernel
theorem dX4_step_49 : decode cX4_step 49 = .ok (.aload_n 0, 1) := by decide +kernel
theorem dX4_step_50 : decode cX4_step 50 = .ok (.iload_n 2, 1) := by decide +kernel
theorem dX4_step_51 : decode cX4_step 51 = .ok (.invokevirtual 90, 3) := by decide +kernel
theorem dX4_step_54 : decode cX4_step 54 = .ok (.istore_n 3, 1) := by decide +kernel
theorem dX4_step_55 : decode cX4_step 55 = .ok (.iload_n 3, 1) := by decide +kernel
theorem dX4_step_56 : decode cX4_step 56 = .ok (.iconst (-1), 1) := by decide +kernel
theorem dX4_step_57 : decode cX4_step 57 = .ok (.if_icmp .eq 45, 3) := by decide +kernel
theorem dX4_step_60 : decode cX4_step 60 = .ok (.aload_n 0, 1) := by decide +kernel
theorem dX4_step_61 : decode cX4_step 61 = .ok (.getfield 7, 3) := by decide +kernel
theorem dX4_step_64 : decode cX4_step 64 = .ok (.sipush 214, 3) := by decide +kernel
theorem dX4_step_67 : decode cX4_step 67 = .ok (.aload_n 0, 1) := by decide +kernel
theorem dX4_step_68 : decode cX4_step 68 = .ok (.getfield 7, 3) := by decide +kernel
theorem dX4_step_71 : decode cX4_step 71 = .ok (.bipush 14, 2) := by decide +kernel
theorem dX4_step_73 : decode cX4_step 73 = .ok (.iload_n 2, 1) := by decide +kernel
theorem dX4_step_74 : decode cX4_step 74 = .ok (.iadd, 1) := by decide +kernel
theorem dX4_step_75 : decode cX4_step 75 = .ok (.iaload, 1) := by decide +kernel
theorem dX4_step_76 : decode cX4_step 76 = .ok (.iadd, 1) := by decide +kernel
theorem dX4_step_77 : decode cX4_step 77 = .ok (.iaload, 1) := by decide +kernel
theorem dX4_step_78 : decode cX4_step 78 = .ok (.ifCond .eq 13, 3) := by decide +kernel
theorem dX4_step_81 : decode cX4_step 81 = .ok (.aload_n 0, 1) := by decide +kernel
theorem dX4_step_82 : decode cX4_step 82 = .ok (.getfield 7, 3) := by decide +kernel
theorem dX4_step_85 : decode cX4_step 85 = .ok (.bipush 7, 2) := by decide +kernel
theorem dX4_step_87 : decode cX4_step 87 = .ok (.iaload, 1) := by decide +kernel
theorem dX4_step_88 : decode cX4_step 88 = .ok (.ifCond .ne 5, 3) := by decide +kernel
theorem dX4_step_91 : decode cX4_step 91 = .ok (.iconst (-1), 1) := by decide +kernel
theorem dX4_step_92 : decode cX4_step 92 = .ok (.ireturn, 1) := by decide +kernel
theorem dX4_step_93 : decode cX4_step 93 = .ok (.aload_n 0, 1) := by decide +kernel
theorem dX4_step_94 : decode cX4_step 94 = .ok (.iload_n 2, 1) := by decide +kernel
theorem dX4_step_95 : decode cX4_step 95 = .ok (.iload_n 3, 1) := by decide +kernel
theorem dX4_step_96 : decode cX4_step 96 = .ok (.iconst 1, 1) := by decide +kernel
theorem dX4_step_97 : decode cX4_step 97 = .ok (.invokevirtual 97, 3) := by decide +kernel
theorem dX4_step_100 : decode cX4_step 100 = .ok (.iconst 1, 1) := by decide +kernel
theorem dX4_step_101 : decode cX4_step 101 = .ok (.ireturn, 1) := by decide +kernel
theorem dX4_step_102 : decode cX4_step 102 = .ok (.aload_n 0, 1) := by decide +kernel
theorem dX4_step_103 : decode cX4_step 103 = .ok (.invokevirtual 53, 3) := by decide +kernel
theorem dX4_step_106 : decode cX4_step 106 = .ok (.aload_n 0, 1) := by decide +kernel
theorem dX4_step_107 : decode cX4_step 107 = .ok (.getfield 7, 3) := by decide +kernel
theorem dX4_step_110 : decode cX4_step 110 = .ok (.iconst 0, 1) := by decide +kernel
theorem dX4_step_111 : decode cX4_step 111 = .ok (.iaload, 1) := by decide +kernel
theorem dX4_step_112 : decode cX4_step 112 = .ok (.if_icmp .ge 22, 3) := by decide +kernel
theorem dX4_step_115 : decode cX4_step 115 = .ok (.aload_n 0, 1) := by decide +kernel
theorem dX4_step_116 : decode cX4_step 116 = .ok (.getfield 7, 3) := by decide +kernel
theorem dX4_step_119 : decode cX4_step 119 = .ok (.iconst 2, 1) := by decide +kernel
theorem dX4_step_120 : decode cX4_step 120 = .ok (.iaload, 1) := by decide +kernel
theorem dX4_step_121 : decode cX4_step 121 = .ok (.bipush 100, 2) := by decide +kernel
theorem dX4_step_123 : decode cX4_step 123 = .ok (.if_icmp .eq 11, 3) := by decide +kernel
theorem dX4_step_126 : decode cX4_step 126 = .ok (.aload_n 0, 1) := by decide +kernel
theorem dX4_step_127 : decode cX4_step 127 = .ok (.invokevirtual 120, 3) := by decide +kernel
theorem dX4_step_130 : decode cX4_step 130 = .ok (.iconst (-1), 1) := by decide +kernel
theorem dX4_step_131 : decode cX4_step 131 = .ok (.if_icmp .ne 5, 3) := by decide +kernel
theorem dX4_step_134 : decode cX4_step 134 = .ok (.iconst (-1), 1) := by decide +kernel
theorem dX4_step_135 : decode cX4_step 135 = .ok (.ireturn, 1) := by decide +kernel
theorem dX4_step_136 : decode cX4_step 136 = .ok (.aload_n 0, 1) := by decide +kernel
theorem dX4_step_137 : decode cX4_step 137 = .ok (.aload_n 0, 1) := by decide +kernel
theorem dX4_step_138 : decode cX4_step 138 = .ok (.invokevirtual 120, 3) := by decide +kernel
theorem dX4_step_141 : decode cX4_step 141 = .ok (.invokevirtual 93, 3) := by decide +kernel
theorem dX4_step_144 : decode cX4_step 144 = .ok (.iconst 0, 1) := by decide +kernel
theorem dX4_step_145 : decode cX4_step 145 = .ok (.ireturn, 1) := by decide +kernel
theorem dX4_workDay_0 : decode cX4_workDay 0 = .ok (.aload_n 0, 1) := by decide +kernel
theorem dX4_workDay_1 : decode cX4_workDay 1 = .ok (.iload_n 1, 1) := by decide +kernel
theorem dX4_workDay_2 : decode cX4_workDay 2 = .ok (.invokevirtual 114, 3) := by decide +kernel
theorem dX4_workDay_5 : decode cX4_workDay 5 = .ok (.pop, 1) := by decide +kernel
theorem dX4_workDay_6 : decode cX4_workDay 6 = .ok (.iconst 0, 1) := by decide +kernel
theorem dX4_workDay_7 : decode cX4_workDay 7 = .ok (.istore_n 2, 1) := by decide +kernel
theorem dX4_workDay_8 : decode cX4_workDay 8 = .ok (.aload_n 0, 1) := by decide +kernel
theorem dX4_workDay_9 : decode cX4_workDay 9 = .ok (.invokevirtual 80, 3) := by decide +kernel
theorem dX4_workDay_12 : decode cX4_workDay 12 = .ok (.ifCond .eq 10, 3) := by decide +kernel
theorem dX4_workDay_15 : decode cX4_workDay 15 = .ok (.aload_n 0, 1) := by decide +kernel
theorem dX4_workDay_16 : decode cX4_workDay 16 = .ok (.invokevirtual 123, 3) := by decide +kernel
theorem dX4_workDay_19 : decode cX4_workDay 19 = .ok (.goto 4, 3) := by decide +kernel
theorem dX4_workDay_22 : decode cX4_workDay 22 = .ok (.iconst (-1), 1) := by decide +kernel
theorem dX4_workDay_23 : decode cX4_workDay 23 = .ok (.istore_n 3, 1) := by decide +kernel
theorem dX4_workDay_24 : decode cX4_workDay 24 = .ok (.iload_n 3, 1) := by decide +kernel
theorem dX4_workDay_25 : decode cX4_workDay 25 = .ok (.iconst (-1), 1) := by decide +kernel
theorem dX4_workDay_26 : decode cX4_workDay 26 = .ok (.if_icmp .eq 15, 3) := by decide +kernel
theorem dX4_workDay_29 : decode cX4_workDay 29 = .ok (.iload_n 2, 1) := by decide +kernel
theorem dX4_workDay_30 : decode cX4_workDay 30 = .ok (.iload_n 3, 1) := by decide +kernel
theorem dX4_workDay_31 : decode cX4_workDay 31 = .ok (.iadd, 1) := by decide +kernel
theorem dX4_workDay_32 : decode cX4_workDay 32 = .ok (.istore_n 2, 1) := by decide +kernel
theorem dX4_workDay_33 : decode cX4_workDay 33 = .ok (.aload_n 0, 1) := by decide +kernel
theorem dX4_workDay_34 : decode cX4_workDay 34 = .ok (.invokevirtual 123, 3) := by decide +kernel
theorem dX4_workDay_37 : decode cX4_workDay 37 = .ok (.istore_n 3, 1) := by decide +kernel
theorem dX4_workDay_38 : decode cX4_workDay 38 = .ok (.goto (-14), 3) := by decide +kernel
theorem dX4_workDay_41 : decode cX4_workDay 41 = .ok (.iload_n 2, 1) := by decide +kernel
theorem dX4_workDay_42 : decode cX4_workDay 42 = .ok (.ireturn, 1) := by decide +kernel
theorem dX4_append_0 : decode cX4_append 0 = .ok (.aload_n 0, 1) := by decide +kernel
theorem dX4_append_1 : decode cX4_append 1 = .ok (.iconst 0, 1) := by decide +kernel
theorem dX4_append_2 : decode cX4_append 2 = .ok (.putfield 25, 3) := by decide +kernel
theorem dX4_append_5 : decode cX4_append 5 = .ok (.iload_n 1, 1) := by decide +kernel
theorem dX4_append_6 : decode cX4_append 6 = .ok (.bipush 33, 2) := by decide +kernel
theorem dX4_append_8 : decode cX4_append 8 = .ok (.bipush 126, 2) := by decide +kernel
theorem dX4_append_10 : decode cX4_append 10 = .ok (.invokestatic 29, 3) := by decide +kernel
theorem dX4_append_13 : decode cX4_append 13 = .ok (.ifCond .ne 9, 3) := by decide +kernel
theorem dX4_append_16 : decode cX4_append 16 = .ok (.aload_n 0, 1) := by decide +kernel
theorem dX4_append_17 : decode cX4_append 17 = .ok (.iconst 1, 1) := by decide +kernel
theorem dX4_append_18 : decode cX4_append 18 = .ok (.invokevirtual 60, 3) := by decide +kernel
theorem dX4_append_21 : decode cX4_append 21 = .ok (.ireturn, 1) := by decide +kernel
theorem dX4_append_22 : decode cX4_append 22 = .ok (.aload_n 0, 1) := by decide +kernel
theorem dX4_append_23 : decode cX4_append 23 = .ok (.getfield 126, 3) := by decide +kernel
theorem dX4_append_26 : decode cX4_append 26 = .ok (.bipush 60, 2) := by decide +kernel
theorem dX4_append_28 : decode cX4_append 28 = .ok (.if_icmp .ne 9, 3) := by decide +kernel
theorem dX4_append_31 : decode cX4_append 31 = .ok (.aload_n 0, 1) := by decide +kernel
theorem dX4_append_32 : decode cX4_append 32 = .ok (.iconst 2, 1) := by decide +kernel
theorem dX4_append_33 : decode cX4_append 33 = .ok (.invokevirtual 60, 3) := by decide +kernel
theorem dX4_append_36 : decode cX4_append 36 = .ok (.ireturn, 1) := by decide +kernel
theorem dX4_append_37 : decode cX4_append 37 = .ok (.aload_n 0, 1) := by decide +kernel
theorem dX4_append_38 : decode cX4_append 38 = .ok (.getfield 19, 3) := by decide +kernel
theorem dX4_append_41 : decode cX4_append 41 = .ok (.aload_n 0, 1) := by decide +kernel
theorem dX4_append_42 : decode cX4_append 42 = .ok (.getfield 126, 3) := by decide +kernel
theorem dX4_append_45 : decode cX4_append 45 = .ok (.iload_n 1, 1) := by decide +kernel
theorem dX4_append_46 : decode cX4_append 46 = .ok (.iastore, 1) := by decide +kernel
theorem dX4_append_47 : decode cX4_append 47 = .ok (.aload_n 0, 1) := by decide +kernel
theorem dX4_append_48 : decode cX4_append 48 = .ok (.dup, 1) := by decide +kernel
theorem dX4_append_49 : decode cX4_append 49 = .ok (.getfield 126, 3) := by decide +kernel
theorem dX4_append_52 : decode cX4_append 52 = .ok (.iconst 1, 1) := by decide +kernel
theorem dX4_append_53 : decode cX4_append 53 = .ok (.iadd, 1) := by decide +kernel
theorem dX4_append_54 : decode cX4_append 54 = .ok (.putfield 126, 3) := by decide +kernel
theorem dX4_append_57 : decode cX4_append 57 = .ok (.aload_n 0, 1) := by decide +kernel
theorem dX4_append_58 : decode cX4_append 58 = .ok (.getfield 126, 3) := by decide +kernel
theorem dX4_append_61 : decode cX4_append 61 = .ok (.ireturn, 1) := by decide +kernel
theorem dX4_clearBuffer_0 : decode cX4_clearBuffer 0 = .ok (.aload_n 0, 1) := by decide +kernel
theorem dX4_clearBuffer_1 : decode cX4_clearBuffer 1 = .ok (.iconst 0, 1) := by decide +kernel
theorem dX4_clearBuffer_2 : decode cX4_clearBuffer 2 = .ok (.putfield 25, 3) := by decide +kernel
theorem dX4_clearBuffer_5 : decode cX4_clearBuffer 5 = .ok (.aload_n 0, 1) := by decide +kernel
theorem dX4_clearBuffer_6 : decode cX4_clearBuffer 6 = .ok (.getfield 126, 3) := by decide +kernel
theorem dX4_clearBuffer_9 : decode cX4_clearBuffer 9 = .ok (.istore_n 1, 1) := by decide +kernel
theorem dX4_clearBuffer_10 : decode cX4_clearBuffer 10 = .ok (.aload_n 0, 1) := by decide +kernel
theorem dX4_clearBuffer_11 : decode cX4_clearBuffer 11 = .ok (.iconst 0, 1) := by decide +kernel
theorem dX4_clearBuffer_12 : decode cX4_clearBuffer 12 = .ok (.putfield 126, 3) := by decide +kernel
theorem dX4_clearBuffer_15 : decode cX4_clearBuffer 15 = .ok (.iload_n 1, 1) := by decide +kernel
theorem dX4_clearBuffer_16 : decode cX4_clearBuffer 16 = .ok (.ireturn, 1) := by decide +kernel
theorem dX4_comes_0 : decode cX4_comes 0 = .ok (.iconst 0, 1) := by decide +kernel
theorem dX4_comes_1 : decode cX4_comes 1 = .ok (.istore_n 3, 1) := by decide +kernel
theorem dX4_comes_2 : decode cX4_comes 2 = .ok (.iload_n 3, 1) := by decide +kernel
theorem dX4_comes_3 : decode cX4_comes 3 = .ok (.iload_n 2, 1) := by decide +kernel
theorem dX4_comes_4 : decode cX4_comes 4 = .ok (.if_icmp .ge 39, 3) := by decide +kernel
theorem dX4_comes_7 : decode cX4_comes 7 = .ok (.aload_n 0, 1) := by decide +kernel
theorem dX4_comes_8 : decode cX4_comes 8 = .ok (.getfield 129, 3) := by decide +kernel
theorem dX4_comes_11 : decode cX4_comes 11 = .ok (.sipush 200, 3) := by decide +kernel
theorem dX4_comes_14 : decode cX4_comes 14 = .ok (.if_icmp .ge 13, 3) := by decide +kernel
theorem dX4_comes_17 : decode cX4_comes 17 = .ok (.aload_n 0, 1) := by decide +kernel
theorem dX4_comes_18 : decode cX4_comes 18 = .ok (.getfield 22, 3) := by decide +kernel
theorem dX4_comes_21 : decode cX4_comes 21 = .ok (.aload_n 0, 1) := by decide +kernel
theorem dX4_comes_22 : decode cX4_comes 22 = .ok (.getfield 129, 3) := by decide +kernel
theorem dX4_comes_25 : decode cX4_comes 25 = .ok (.iload_n 1, 1) := by decide +kernel
theorem dX4_comes_26 : decode cX4_comes 26 = .ok (.iastore, 1) := by decide +kernel
theorem dX4_comes_27 : decode cX4_comes 27 = .ok (.aload_n 0, 1) := by decide +kernel
theorem dX4_comes_28 : decode cX4_comes 28 = .ok (.dup, 1) := by decide +kernel
theorem dX4_comes_29 : decode cX4_comes 29 = .ok (.getfield 129, 3) := by decide +kernel
theorem dX4_comes_32 : decode cX4_comes 32 = .ok (.iconst 1, 1) := by decide +kernel
theorem dX4_comes_33 : decode cX4_comes 33 = .ok (.iadd, 1) := by decide +kernel
theorem dX4_comes_34 : decode cX4_comes 34 = .ok (.putfield 129, 3) := by decide +kernel
theorem dX4_comes_37 : decode cX4_comes 37 = .ok (.iinc 3 1, 3) := by decide +kernel
theorem dX4_comes_40 : decode cX4_comes 40 = .ok (.goto (-38), 3) := by decide +kernel
theorem dX4_comes_43 : decode cX4_comes 43 = .ok (.return_, 1) := by decide +kernel
theorem dX4_read_0 : decode cX4_read 0 = .ok (.aload_n 0, 1) := by decide +kernel
theorem dX4_read_1 : decode cX4_read 1 = .ok (.iconst 0, 1) := by decide +kernel
theorem dX4_read_2 : decode cX4_read 2 = .ok (.putfield 129, 3) := by decide +kernel
theorem dX4_read_5 : decode cX4_read 5 = .ok (.aload_n 0, 1) := by decide +kernel
theorem dX4_read_6 : decode cX4_read 6 = .ok (.iconst 0, 1) := by decide +kernel
theorem dX4_read_7 : decode cX4_read 7 = .ok (.putfield 132, 3) := by decide +kernel
theorem dX4_read_10 : decode cX4_read 10 = .ok (.iconst 0, 1) := by decide +kernel
theorem dX4_read_11 : decode cX4_read 11 = .ok (.istore_n 1, 1) := by decide +kernel
theorem dX4_read_12 : decode cX4_read 12 = .ok (.iconst 0, 1) := by decide +kernel
theorem dX4_read_13 : decode cX4_read 13 = .ok (.istore_n 2, 1) := by decide +kernel
theorem dX4_read_14 : decode cX4_read 14 = .ok (.iconst 0, 1) := by decide +kernel
theorem dX4_read_15 : decode cX4_read 15 = .ok (.istore_n 3, 1) := by decide +kernel
theorem dX4_read_16 : decode cX4_read 16 = .ok (.iconst 0, 1) := by decide +kernel
theorem dX4_read_17 : decode cX4_read 17 = .ok (.istore 4, 2) := by decide +kernel
theorem dX4_read_19 : decode cX4_read 19 = .ok (.iload 4, 2) := by decide +kernel
theorem dX4_read_21 : decode cX4_read 21 = .ok (.aload_n 0, 1) := by decide +kernel
theorem dX4_read_22 : decode cX4_read 22 = .ok (.getfield 126, 3) := by decide +kernel
theorem dX4_read_25 : decode cX4_read 25 = .ok (.if_icmp .ge 181, 3) := by decide +kernel
theorem dX4_read_28 : decode cX4_read 28 = .ok (.aload_n 0, 1) := by decide +kernel
theorem dX4_read_29 : decode cX4_read 29 = .ok (.getfield 19, 3) := by decide +kernel
theorem dX4_read_32 : decode cX4_read 32 = .ok (.iload 4, 2) := by decide +kernel
theorem dX4_read_34 : decode cX4_read 34 = .ok (.iaload, 1) := by decide +kernel
theorem dX4_read_35 : decode cX4_read 35 = .ok (.istore 5, 2) := by decide +kernel
theorem dX4_read_37 : decode cX4_read 37 = .ok (.iload 5, 2) := by decide +kernel
theorem dX4_read_39 : decode cX4_read 39 = .ok (.bipush 48, 2) := by decide +kernel
theorem dX4_read_41 : decode cX4_read 41 = .ok (.bipush 57, 2) := by decide +kernel
theorem dX4_read_43 : decode cX4_read 43 = .ok (.invokestatic 29, 3) := by decide +kernel
theorem dX4_read_46 : decode cX4_read 46 = .ok (.istore 6, 2) := by decide +kernel
theorem dX4_read_48 : decode cX4_read 48 = .ok (.iload 5, 2) := by decide +kernel
theorem dX4_read_50 : decode cX4_read 50 = .ok (.bipush 100, 2) := by decide +kernel
theorem dX4_read_52 : decode cX4_read 52 = .ok (.if_icmp .eq 17, 3) := by decide +kernel
theorem dX4_read_55 : decode cX4_read 55 = .ok (.iload 5, 2) := by decide +kernel
theorem dX4_read_57 : decode cX4_read 57 = .ok (.bipush 114, 2) := by decide +kernel
theorem dX4_read_59 : decode cX4_read 59 = .ok (.if_icmp .eq 10, 3) := by decide +kernel
theorem dX4_read_62 : decode cX4_read 62 = .ok (.iload 5, 2) := by decide +kernel
theorem dX4_read_64 : decode cX4_read 64 = .ok (.bipush 115, 2) := by decide +kernel
theorem dX4_read_66 : decode cX4_read 66 = .ok (.if_icmp .ne 7, 3) := by decide +kernel
theorem dX4_read_69 : decode cX4_read 69 = .ok (.iconst 1, 1) := by decide +kernel
theorem dX4_read_70 : decode cX4_read 70 = .ok (.goto 4, 3) := by decide +kernel
theorem dX4_read_73 : decode cX4_read 73 = .ok (.iconst 0, 1) := by decide +kernel
theorem dX4_read_74 : decode cX4_read 74 = .ok (.istore 7, 2) := by decide +kernel
theorem dX4_read_76 : decode cX4_read 76 = .ok (.iload 7, 2) := by decide +kernel
theorem dX4_read_78 : decode cX4_read 78 = .ok (.ifCond .eq 49, 3) := by decide +kernel
theorem dX4_read_81 : decode cX4_read 81 = .ok (.iload_n 1, 1) := by decide +kernel
theorem dX4_read_82 : decode cX4_read 82 = .ok (.iconst 2, 1) := by decide +kernel
theorem dX4_read_83 : decode cX4_read 83 = .ok (.if_icmp .eq 44, 3) := by decide +kernel
theorem dX4_read_86 : decode cX4_read 86 = .ok (.iload_n 1, 1) := by decide +kernel
theorem dX4_read_87 : decode cX4_read 87 = .ok (.ifCond .le 9, 3) := by decide +kernel
theorem dX4_read_90 : decode cX4_read 90 = .ok (.aload_n 0, 1) := by decide +kernel
theorem dX4_read_91 : decode cX4_read 91 = .ok (.iload_n 2, 1) := by decide +kernel
theorem dX4_read_92 : decode cX4_read 92 = .ok (.iload_n 3, 1) := by decide +kernel
theorem dX4_read_93 : decode cX4_read 93 = .ok (.invokevirtual 136, 3) := by decide +kernel
theorem dX4_read_96 : decode cX4_read 96 = .ok (.iload 5, 2) := by decide +kernel
theorem dX4_read_98 : decode cX4_read 98 = .ok (.bipush 100, 2) := by decide +kernel
theorem dX4_read_100 : decode cX4_read 100 = .ok (.if_icmp .ne 7, 3) := by decide +kernel
theorem dX4_read_103 : decode cX4_read 103 = .ok (.iconst 0, 1) := by decide +kernel
theorem dX4_read_104 : decode cX4_read 104 = .ok (.goto 15, 3) := by decide +kernel
theorem dX4_read_107 : decode cX4_read 107 = .ok (.iload 5, 2) := by decide +kernel
theorem dX4_read_109 : decode cX4_read 109 = .ok (.bipush 114, 2) := by decide +kernel
theorem dX4_read_111 : decode cX4_read 111 = .ok (.if_icmp .ne 7, 3) := by decide +kernel
theorem dX4_read_114 : decode cX4_read 114 = .ok (.iconst 1, 1) := by decide +kernel
theorem dX4_read_115 : decode cX4_read 115 = .ok (.goto 4, 3) := by decide +kernel
theorem dX4_read_118 : decode cX4_read 118 = .ok (.iconst 2, 1) := by decide +kernel
theorem dX4_read_119 : decode cX4_read 119 = .ok (.istore_n 2, 1) := by decide +kernel
theorem dX4_read_120 : decode cX4_read 120 = .ok (.iconst 1, 1) := by decide +kernel
theorem dX4_read_121 : decode cX4_read 121 = .ok (.istore_n 3, 1) := by decide +kernel
theorem dX4_read_122 : decode cX4_read 122 = .ok (.iconst 1, 1) := by decide +kernel
theorem dX4_read_123 : decode cX4_read 123 = .ok (.istore_n 1, 1) := by decide +kernel
theorem dX4_read_124 : decode cX4_read 124 = .ok (.goto 76, 3) := by decide +kernel
theorem dX4_read_127 : decode cX4_read 127 = .ok (.iload 6, 2) := by decide +kernel
theorem dX4_read_129 : decode cX4_read 129 = .ok (.ifCond .eq 37, 3) := by decide +kernel
theorem dX4_read_132 : decode cX4_read 132 = .ok (.iload_n 1, 1) := by decide +kernel
theorem dX4_read_133 : decode cX4_read 133 = .ok (.iconst 1, 1) := by decide +kernel
theorem dX4_read_134 : decode cX4_read 134 = .ok (.if_icmp .ne 32, 3) := by decide +kernel
theorem dX4_read_137 : decode cX4_read 137 = .ok (.iload 5, 2) := by decide +kernel
theorem dX4_read_139 : decode cX4_read 139 = .ok (.bipush 48, 2) := by decide +kernel
theorem dX4_read_141 : decode cX4_read 141 = .ok (.if_icmp .eq 25, 3) := by decide +kernel
theorem dX4_read_144 : decode cX4_read 144 = .ok (.iload 5, 2) := by decide +kernel
theorem dX4_read_146 : decode cX4_read 146 = .ok (.bipush 48, 2) := by decide +kernel
theorem dX4_read_148 : decode cX4_read 148 = .ok (.isub, 1) := by decide +kernel
theorem dX4_read_149 : decode cX4_read 149 = .ok (.istore_n 3, 1) := by decide +kernel
theorem dX4_read_150 : decode cX4_read 150 = .ok (.iload 5, 2) := by decide +kernel
theorem dX4_read_152 : decode cX4_read 152 = .ok (.bipush 49, 2) := by decide +kernel
theorem dX4_read_154 : decode cX4_read 154 = .ok (.if_icmp .ne 7, 3) := by decide +kernel
theorem dX4_read_157 : decode cX4_read 157 = .ok (.iconst 2, 1) := by decide +kernel
theorem dX4_read_158 : decode cX4_read 158 = .ok (.goto 4, 3) := by decide +kernel
theorem dX4_read_161 : decode cX4_read 161 = .ok (.iconst 3, 1) := by decide +kernel
theorem dX4_read_162 : decode cX4_read 162 = .ok (.istore_n 1, 1) := by decide +kernel
theorem dX4_read_163 : decode cX4_read 163 = .ok (.goto 37, 3) := by decide +kernel
theorem dX4_read_166 : decode cX4_read 166 = .ok (.iload 6, 2) := by decide +kernel
theorem dX4_read_168 : decode cX4_read 168 = .ok (.ifCond .eq 29, 3) := by decide +kernel
theorem dX4_read_171 : decode cX4_read 171 = .ok (.iload_n 1, 1) := by decide +kernel
theorem dX4_read_172 : decode cX4_read 172 = .ok (.iconst 2, 1) := by decide +kernel
theorem dX4_read_173 : decode cX4_read 173 = .ok (.if_icmp .eq 8, 3) := by decide +kernel
theorem dX4_read_176 : decode cX4_read 176 = .ok (.iload_n 1, 1) := by decide +kernel
theorem dX4_read_177 : decode cX4_read 177 = .ok (.iconst 3, 1) := by decide +kernel
theorem dX4_read_178 : decode cX4_read 178 = .ok (.if_icmp .ne 19, 3) := by decide +kernel
theorem dX4_read_181 : decode cX4_read 181 = .ok (.bipush 10, 2) := by decide +kernel
theorem dX4_read_183 : decode cX4_read 183 = .ok (.iload_n 3, 1) := by decide +kernel
theorem dX4_read_184 : decode cX4_read 184 = .ok (.imul, 1) := by decide +kernel
theorem dX4_read_185 : decode cX4_read 185 = .ok (.iload 5, 2) := by decide +kernel
theorem dX4_read_187 : decode cX4_read 187 = .ok (.iadd, 1) := by decide +kernel
theorem dX4_read_188 : decode cX4_read 188 = .ok (.bipush 48, 2) := by decide +kernel
theorem dX4_read_190 : decode cX4_read 190 = .ok (.isub, 1) := by decide +kernel
theorem dX4_read_191 : decode cX4_read 191 = .ok (.istore_n 3, 1) := by decide +kernel
theorem dX4_read_192 : decode cX4_read 192 = .ok (.iconst 4, 1) := by decide +kernel
theorem dX4_read_193 : decode cX4_read 193 = .ok (.istore_n 1, 1) := by decide +kernel
theorem dX4_read_194 : decode cX4_read 194 = .ok (.goto 6, 3) := by decide +kernel
theorem dX4_read_197 : decode cX4_read 197 = .ok (.iload 4, 2) := by decide +kernel
theorem dX4_read_199 : decode cX4_read 199 = .ok (.ireturn, 1) := by decide +kernel
theorem dX4_read_200 : decode cX4_read 200 = .ok (.iinc 4 1, 3) := by decide +kernel
theorem dX4_read_203 : decode cX4_read 203 = .ok (.goto (-184), 3) := by decide +kernel
theorem dX4_read_206 : decode cX4_read 206 = .ok (.aload_n 0, 1) := by decide +kernel
theorem dX4_read_207 : decode cX4_read 207 = .ok (.iload_n 1, 1) := by decide +kernel
theorem dX4_read_208 : decode cX4_read 208 = .ok (.ifCond .eq 12, 3) := by decide +kernel
theorem dX4_read_211 : decode cX4_read 211 = .ok (.iload_n 1, 1) := by decide +kernel
theorem dX4_read_212 : decode cX4_read 212 = .ok (.iconst 2, 1) := by decide +kernel
theorem dX4_read_213 : decode cX4_read 213 = .ok (.if_icmp .eq 7, 3) := by decide +kernel
theorem dX4_read_216 : decode cX4_read 216 = .ok (.iconst 1, 1) := by decide +kernel
theorem dX4_read_217 : decode cX4_read 217 = .ok (.goto 4, 3) := by decide +kernel
theorem dX4_read_220 : decode cX4_read 220 = .ok (.iconst 0, 1) := by decide +kernel
theorem dX4_read_221 : decode cX4_read 221 = .ok (.putfield 132, 3) := by decide +kernel
theorem dX4_read_224 : decode cX4_read 224 = .ok (.aload_n 0, 1) := by decide +kernel
theorem dX4_read_225 : decode cX4_read 225 = .ok (.getfield 132, 3) := by decide +kernel
theorem dX4_read_228 : decode cX4_read 228 = .ok (.ifCond .eq 9, 3) := by decide +kernel
theorem dX4_read_231 : decode cX4_read 231 = .ok (.aload_n 0, 1) := by decide +kernel
theorem dX4_read_232 : decode cX4_read 232 = .ok (.iload_n 2, 1) := by decide +kernel
theorem dX4_read_233 : decode cX4_read 233 = .ok (.iload_n 3, 1) := by decide +kernel
theorem dX4_read_234 : decode cX4_read 234 = .ok (.invokevirtual 136, 3) := by decide +kernel
theorem dX4_read_237 : decode cX4_read 237 = .ok (.aload_n 0, 1) := by decide +kernel
theorem dX4_read_238 : decode cX4_read 238 = .ok (.getfield 126, 3) := by decide +kernel
theorem dX4_read_241 : decode cX4_read 241 = .ok (.ireturn, 1) := by decide +kernel
theorem dX4_firstError_0 : decode cX4_firstError 0 = .ok (.aload_n 0, 1) := by decide +kernel
theorem dX4_firstError_1 : decode cX4_firstError 1 = .ok (.iconst 0, 1) := by decide +kernel
theorem dX4_firstError_2 : decode cX4_firstError 2 = .ok (.putfield 25, 3) := by decide +kernel
theorem dX4_firstError_5 : decode cX4_firstError 5 = .ok (.aload_n 0, 1) := by decide +kernel
theorem dX4_firstError_6 : decode cX4_firstError 6 = .ok (.invokevirtual 140, 3) := by decide +kernel
theorem dX4_firstError_9 : decode cX4_firstError 9 = .ok (.ireturn, 1) := by decide +kernel
theorem dX4_work_0 : decode cX4_work 0 = .ok (.aload_n 0, 1) := by decide +kernel
theorem dX4_work_1 : decode cX4_work 1 = .ok (.iconst 0, 1) := by decide +kernel
theorem dX4_work_2 : decode cX4_work 2 = .ok (.putfield 25, 3) := by decide +kernel
theorem dX4_work_5 : decode cX4_work 5 = .ok (.aload_n 0, 1) := by decide +kernel
theorem dX4_work_6 : decode cX4_work 6 = .ok (.invokevirtual 140, 3) := by decide +kernel
theorem dX4_work_9 : decode cX4_work 9 = .ok (.pop, 1) := by decide +kernel
theorem dX4_work_10 : decode cX4_work 10 = .ok (.aload_n 0, 1) := by decide +kernel
theorem dX4_work_11 : decode cX4_work 11 = .ok (.getfield 132, 3) := by decide +kernel
theorem dX4_work_14 : decode cX4_work 14 = .ok (.ifCond .ne 9, 3) := by decide +kernel
theorem dX4_work_17 : decode cX4_work 17 = .ok (.aload_n 0, 1) := by decide +kernel
theorem dX4_work_18 : decode cX4_work 18 = .ok (.iconst 1, 1) := by decide +kernel
theorem dX4_work_19 : decode cX4_work 19 = .ok (.invokevirtual 60, 3) := by decide +kernel
theorem dX4_work_22 : decode cX4_work 22 = .ok (.ireturn, 1) := by decide +kernel
theorem dX4_work_23 : decode cX4_work 23 = .ok (.aload_n 0, 1) := by decide +kernel
theorem dX4_work_24 : decode cX4_work 24 = .ok (.getfield 129, 3) := by decide +kernel
theorem dX4_work_27 : decode cX4_work 27 = .ok (.sipush 200, 3) := by decide +kernel
theorem dX4_work_30 : decode cX4_work 30 = .ok (.if_icmp .gt 21, 3) := by decide +kernel
theorem dX4_work_33 : decode cX4_work 33 = .ok (.aload_n 0, 1) := by decide +kernel
theorem dX4_work_34 : decode cX4_work 34 = .ok (.getfield 7, 3) := by decide +kernel
theorem dX4_work_37 : decode cX4_work 37 = .ok (.bipush 6, 2) := by decide +kernel
theorem dX4_work_39 : decode cX4_work 39 = .ok (.iaload, 1) := by decide +kernel
theorem dX4_work_40 : decode cX4_work 40 = .ok (.aload_n 0, 1) := by decide +kernel
theorem dX4_work_41 : decode cX4_work 41 = .ok (.getfield 129, 3) := by decide +kernel
theorem dX4_work_44 : decode cX4_work 44 = .ok (.iadd, 1) := by decide +kernel
theorem dX4_work_45 : decode cX4_work 45 = .ok (.sipush 1000, 3) := by decide +kernel
theorem dX4_work_48 : decode cX4_work 48 = .ok (.if_icmp .le 9, 3) := by decide +kernel
theorem dX4_work_51 : decode cX4_work 51 = .ok (.aload_n 0, 1) := by decide +kernel
theorem dX4_work_52 : decode cX4_work 52 = .ok (.iconst 2, 1) := by decide +kernel
theorem dX4_work_53 : decode cX4_work 53 = .ok (.invokevirtual 60, 3) := by decide +kernel
theorem dX4_work_56 : decode cX4_work 56 = .ok (.ireturn, 1) := by decide +kernel
theorem dX4_work_57 : decode cX4_work 57 = .ok (.aload_n 0, 1) := by decide +kernel
theorem dX4_work_58 : decode cX4_work 58 = .ok (.invokevirtual 63, 3) := by decide +kernel
theorem dX4_work_61 : decode cX4_work 61 = .ok (.aload_n 0, 1) := by decide +kernel
theorem dX4_work_62 : decode cX4_work 62 = .ok (.iconst 0, 1) := by decide +kernel
theorem dX4_work_63 : decode cX4_work 63 = .ok (.putfield 126, 3) := by decide +kernel
theorem dX4_work_66 : decode cX4_work 66 = .ok (.iconst 0, 1) := by decide +kernel
theorem dX4_work_67 : decode cX4_work 67 = .ok (.istore_n 1, 1) := by decide +kernel
theorem dX4_work_68 : decode cX4_work 68 = .ok (.iconst 0, 1) := by decide +kernel
theorem dX4_work_69 : decode cX4_work 69 = .ok (.istore_n 2, 1) := by decide +kernel
theorem dX4_work_70 : decode cX4_work 70 = .ok (.iload_n 2, 1) := by decide +kernel
theorem dX4_work_71 : decode cX4_work 71 = .ok (.aload_n 0, 1) := by decide +kernel
theorem dX4_work_72 : decode cX4_work 72 = .ok (.getfield 129, 3) := by decide +kernel
theorem dX4_work_75 : decode cX4_work 75 = .ok (.if_icmp .ge 22, 3) := by decide +kernel
theorem dX4_work_78 : decode cX4_work 78 = .ok (.iload_n 1, 1) := by decide +kernel
theorem dX4_work_79 : decode cX4_work 79 = .ok (.aload_n 0, 1) := by decide +kernel
theorem dX4_work_80 : decode cX4_work 80 = .ok (.aload_n 0, 1) := by decide +kernel
theorem dX4_work_81 : decode cX4_work 81 = .ok (.getfield 22, 3) := by decide +kernel
theorem dX4_work_84 : decode cX4_work 84 = .ok (.iload_n 2, 1) := by decide +kernel
theorem dX4_work_85 : decode cX4_work 85 = .ok (.iaload, 1) := by decide +kernel
theorem dX4_work_86 : decode cX4_work 86 = .ok (.invokevirtual 143, 3) := by decide +kernel
theorem dX4_work_89 : decode cX4_work 89 = .ok (.iadd, 1) := by decide +kernel
theorem dX4_work_90 : decode cX4_work 90 = .ok (.istore_n 1, 1) := by decide +kernel
theorem dX4_work_91 : decode cX4_work 91 = .ok (.iinc 2 1, 3) := by decide +kernel
theorem dX4_work_94 : decode cX4_work 94 = .ok (.goto (-24), 3) := by decide +kernel
theorem dX4_work_97 : decode cX4_work 97 = .ok (.iload_n 1, 1) := by decide +kernel
theorem dX4_work_98 : decode cX4_work 98 = .ok (.ireturn, 1) := by decide +kernel
theorem dX4_undo_0 : decode cX4_undo 0 = .ok (.aload_n 0, 1) := by decide +kernel
theorem dX4_undo_1 : decode cX4_undo 1 = .ok (.iconst 0, 1) := by decide +kernel
theorem dX4_undo_2 : decode cX4_undo 2 = .ok (.putfield 25, 3) := by decide +kernel
theorem dX4_undo_5 : decode cX4_undo 5 = .ok (.aload_n 0, 1) := by decide +kernel
theorem dX4_undo_6 : decode cX4_undo 6 = .ok (.getfield 33, 3) := by decide +kernel
theorem dX4_undo_9 : decode cX4_undo 9 = .ok (.ifCond .ne 9, 3) := by decide +kernel
theorem dX4_undo_12 : decode cX4_undo 12 = .ok (.aload_n 0, 1) := by decide +kernel
theorem dX4_undo_13 : decode cX4_undo 13 = .ok (.iconst 1, 1) := by decide +kernel
theorem dX4_undo_14 : decode cX4_undo 14 = .ok (.invokevirtual 60, 3) := by decide +kernel
theorem dX4_undo_17 : decode cX4_undo 17 = .ok (.ireturn, 1) := by decide +kernel
theorem dX4_undo_18 : decode cX4_undo 18 = .ok (.aload_n 0, 1) := by decide +kernel
theorem dX4_undo_19 : decode cX4_undo 19 = .ok (.dup, 1) := by decide +kernel
theorem dX4_undo_20 : decode cX4_undo 20 = .ok (.getfield 33, 3) := by decide +kernel
theorem dX4_undo_23 : decode cX4_undo 23 = .ok (.iconst 1, 1) := by decide +kernel
theorem dX4_undo_24 : decode cX4_undo 24 = .ok (.isub, 1) := by decide +kernel
theorem dX4_undo_25 : decode cX4_undo 25 = .ok (.putfield 33, 3) := by decide +kernel
theorem dX4_undo_28 : decode cX4_undo 28 = .ok (.iconst 0, 1) := by decide +kernel
theorem dX4_undo_29 : decode cX4_undo 29 = .ok (.istore_n 1, 1) := by decide +kernel
theorem dX4_undo_30 : decode cX4_undo 30 = .ok (.iload_n 1, 1) := by decide +kernel
theorem dX4_undo_31 : decode cX4_undo 31 = .ok (.sipush 294, 3) := by decide +kernel
theorem dX4_undo_34 : decode cX4_undo 34 = .ok (.if_icmp .ge 30, 3) := by decide +kernel
theorem dX4_undo_37 : decode cX4_undo 37 = .ok (.aload_n 0, 1) := by decide +kernel
theorem dX4_undo_38 : decode cX4_undo 38 = .ok (.getfield 7, 3) := by decide +kernel
theorem dX4_undo_41 : decode cX4_undo 41 = .ok (.iload_n 1, 1) := by decide +kernel
theorem dX4_undo_42 : decode cX4_undo 42 = .ok (.aload_n 0, 1) := by decide +kernel
theorem dX4_undo_43 : decode cX4_undo 43 = .ok (.getfield 16, 3) := by decide +kernel
theorem dX4_undo_46 : decode cX4_undo 46 = .ok (.sipush 294, 3) := by decide +kernel
theorem dX4_undo_49 : decode cX4_undo 49 = .ok (.aload_n 0, 1) := by decide +kernel
theorem dX4_undo_50 : decode cX4_undo 50 = .ok (.getfield 33, 3) := by decide +kernel
theorem dX4_undo_53 : decode cX4_undo 53 = .ok (.imul, 1) := by decide +kernel
theorem dX4_undo_54 : decode cX4_undo 54 = .ok (.iload_n 1, 1) := by decide +kernel
theorem dX4_undo_55 : decode cX4_undo 55 = .ok (.iadd, 1) := by decide +kernel
theorem dX4_undo_56 : decode cX4_undo 56 = .ok (.iaload, 1) := by decide +kernel
theorem dX4_undo_57 : decode cX4_undo 57 = .ok (.iastore, 1) := by decide +kernel
theorem dX4_undo_58 : decode cX4_undo 58 = .ok (.iinc 1 1, 3) := by decide +kernel
theorem dX4_undo_61 : decode cX4_undo 61 = .ok (.goto (-31), 3) := by decide +kernel
theorem dX4_undo_64 : decode cX4_undo 64 = .ok (.aload_n 0, 1) := by decide +kernel
theorem dX4_undo_65 : decode cX4_undo 65 = .ok (.getfield 33, 3) := by decide +kernel
theorem dX4_undo_68 : decode cX4_undo 68 = .ok (.ireturn, 1) := by decide +kernel
theorem dX4_courseNow_0 : decode cX4_courseNow 0 = .ok (.iload_n 2, 1) := by decide +kernel
theorem dX4_courseNow_1 : decode cX4_courseNow 1 = .ok (.tableswitch 87 0 5 #[39, 49, 55, 61, 75, 81], 39) := by decide +kernel
theorem dX4_courseNow_40 : decode cX4_courseNow 40 = .ok (.aload_n 0, 1) := by decide +kernel
theorem dX4_courseNow_41 : decode cX4_courseNow 41 = .ok (.getfield 7, 3) := by decide +kernel
theorem dX4_courseNow_44 : decode cX4_courseNow 44 = .ok (.bipush 14, 2) := by decide +kernel
theorem dX4_courseNow_46 : decode cX4_courseNow 46 = .ok (.iload_n 1, 1) := by decide +kernel
theorem dX4_courseNow_47 : decode cX4_courseNow 47 = .ok (.iadd, 1) := by decide +kernel
theorem dX4_courseNow_48 : decode cX4_courseNow 48 = .ok (.iaload, 1) := by decide +kernel
theorem dX4_courseNow_49 : decode cX4_courseNow 49 = .ok (.ireturn, 1) := by decide +kernel
theorem dX4_courseNow_50 : decode cX4_courseNow 50 = .ok (.aload_n 0, 1) := by decide +kernel
theorem dX4_courseNow_51 : decode cX4_courseNow 51 = .ok (.iload_n 1, 1) := by decide +kernel
theorem dX4_courseNow_52 : decode cX4_courseNow 52 = .ok (.invokevirtual 36, 3) := by decide +kernel
theorem dX4_courseNow_55 : decode cX4_courseNow 55 = .ok (.ireturn, 1) := by decide +kernel
theorem dX4_courseNow_56 : decode cX4_courseNow 56 = .ok (.aload_n 0, 1) := by decide +kernel
theorem dX4_courseNow_57 : decode cX4_courseNow 57 = .ok (.iload_n 1, 1) := by decide +kernel
theorem dX4_courseNow_58 : decode cX4_courseNow 58 = .ok (.invokevirtual 50, 3) := by decide +kernel
theorem dX4_courseNow_61 : decode cX4_courseNow 61 = .ok (.ireturn, 1) := by decide +kernel
theorem dX4_courseNow_62 : decode cX4_courseNow 62 = .ok (.aload_n 0, 1) := by decide +kernel
theorem dX4_courseNow_63 : decode cX4_courseNow 63 = .ok (.aload_n 0, 1) := by decide +kernel
theorem dX4_courseNow_64 : decode cX4_courseNow 64 = .ok (.getfield 7, 3) := by decide +kernel
theorem dX4_courseNow_67 : decode cX4_courseNow 67 = .ok (.bipush 14, 2) := by decide +kernel
theorem dX4_courseNow_69 : decode cX4_courseNow 69 = .ok (.iload_n 1, 1) := by decide +kernel
theorem dX4_courseNow_70 : decode cX4_courseNow 70 = .ok (.iadd, 1) := by decide +kernel
theorem dX4_courseNow_71 : decode cX4_courseNow 71 = .ok (.iaload, 1) := by decide +kernel
theorem dX4_courseNow_72 : decode cX4_courseNow 72 = .ok (.invokevirtual 44, 3) := by decide +kernel
theorem dX4_courseNow_75 : decode cX4_courseNow 75 = .ok (.ireturn, 1) := by decide +kernel
theorem dX4_courseNow_76 : decode cX4_courseNow 76 = .ok (.aload_n 0, 1) := by decide +kernel
theorem dX4_courseNow_77 : decode cX4_courseNow 77 = .ok (.iload_n 1, 1) := by decide +kernel
theorem dX4_courseNow_78 : decode cX4_courseNow 78 = .ok (.invokevirtual 47, 3) := by decide +kernel
theorem dX4_courseNow_81 : decode cX4_courseNow 81 = .ok (.ireturn, 1) := by decide +kernel
theorem dX4_courseNow_82 : decode cX4_courseNow 82 = .ok (.aload_n 0, 1) := by decide +kernel
theorem dX4_courseNow_83 : decode cX4_courseNow 83 = .ok (.iload_n 1, 1) := by decide +kernel
theorem dX4_courseNow_84 : decode cX4_courseNow 84 = .ok (.invokevirtual 90, 3) := by decide +kernel
theorem dX4_courseNow_87 : decode cX4_courseNow 87 = .ok (.ireturn, 1) := by decide +kernel
theorem dX4_courseNow_88 : decode cX4_courseNow 88 = .ok (.aload_n 0, 1) := by decide +kernel
theorem dX4_courseNow_89 : decode cX4_courseNow 89 = .ok (.iload_n 1, 1) := by decide +kernel
theorem dX4_courseNow_90 : decode cX4_courseNow 90 = .ok (.invokevirtual 146, 3) := by decide +kernel
theorem dX4_courseNow_93 : decode cX4_courseNow 93 = .ok (.ireturn, 1) := by decide +kernel
theorem dX4_courseOf_0 : decode cX4_courseOf 0 = .ok (.aload_n 0, 1) := by decide +kernel
theorem dX4_courseOf_1 : decode cX4_courseOf 1 = .ok (.iconst 0, 1) := by decide +kernel
theorem dX4_courseOf_2 : decode cX4_courseOf 2 = .ok (.putfield 25, 3) := by decide +kernel
theorem dX4_courseOf_5 : decode cX4_courseOf 5 = .ok (.iload_n 1, 1) := by decide +kernel
theorem dX4_courseOf_6 : decode cX4_courseOf 6 = .ok (.iconst 0, 1) := by decide +kernel
theorem dX4_courseOf_7 : decode cX4_courseOf 7 = .ok (.aload_n 0, 1) := by decide +kernel
theorem dX4_courseOf_8 : decode cX4_courseOf 8 = .ok (.invokevirtual 87, 3) := by decide +kernel
theorem dX4_courseOf_11 : decode cX4_courseOf 11 = .ok (.invokestatic 29, 3) := by decide +kernel
theorem dX4_courseOf_14 : decode cX4_courseOf 14 = .ok (.ifCond .ne 9, 3) := by decide +kernel
theorem dX4_courseOf_17 : decode cX4_courseOf 17 = .ok (.aload_n 0, 1) := by decide +kernel
theorem dX4_courseOf_18 : decode cX4_courseOf 18 = .ok (.iconst 1, 1) := by decide +kernel
theorem dX4_courseOf_19 : decode cX4_courseOf 19 = .ok (.invokevirtual 60, 3) := by decide +kernel
theorem dX4_courseOf_22 : decode cX4_courseOf 22 = .ok (.ireturn, 1) := by decide +kernel
theorem dX4_courseOf_23 : decode cX4_courseOf 23 = .ok (.iload_n 2, 1) := by decide +kernel
theorem dX4_courseOf_24 : decode cX4_courseOf 24 = .ok (.iconst 0, 1) := by decide +kernel
theorem dX4_courseOf_25 : decode cX4_courseOf 25 = .ok (.bipush 6, 2) := by decide +kernel
theorem dX4_courseOf_27 : decode cX4_courseOf 27 = .ok (.invokestatic 29, 3) := by decide +kernel
theorem dX4_courseOf_30 : decode cX4_courseOf 30 = .ok (.ifCond .eq 12, 3) := by decide +kernel
theorem dX4_courseOf_33 : decode cX4_courseOf 33 = .ok (.aload_n 0, 1) := by decide +kernel
theorem dX4_courseOf_34 : decode cX4_courseOf 34 = .ok (.iload_n 1, 1) := by decide +kernel
theorem dX4_courseOf_35 : decode cX4_courseOf 35 = .ok (.iload_n 2, 1) := by decide +kernel
theorem dX4_courseOf_36 : decode cX4_courseOf 36 = .ok (.invokevirtual 149, 3) := by decide +kernel
theorem dX4_courseOf_39 : decode cX4_courseOf 39 = .ok (.goto 8, 3) := by decide +kernel
theorem dX4_courseOf_42 : decode cX4_courseOf 42 = .ok (.aload_n 0, 1) := by decide +kernel
theorem dX4_courseOf_43 : decode cX4_courseOf 43 = .ok (.iconst 2, 1) := by decide +kernel
theorem dX4_courseOf_44 : decode cX4_courseOf 44 = .ok (.invokevirtual 60, 3) := by decide +kernel
theorem dX4_courseOf_47 : decode cX4_courseOf 47 = .ok (.ireturn, 1) := by decide +kernel
theorem dX4_lies_0 : decode cX4_lies 0 = .ok (.aload_n 0, 1) := by decide +kernel
theorem dX4_lies_1 : decode cX4_lies 1 = .ok (.iconst 0, 1) := by decide +kernel
theorem dX4_lies_2 : decode cX4_lies 2 = .ok (.putfield 25, 3) := by decide +kernel
theorem dX4_lies_5 : decode cX4_lies 5 = .ok (.aload_n 0, 1) := by decide +kernel
theorem dX4_lies_6 : decode cX4_lies 6 = .ok (.iload_n 1, 1) := by decide +kernel
theorem dX4_lies_7 : decode cX4_lies 7 = .ok (.iload_n 2, 1) := by decide +kernel
theorem dX4_lies_8 : decode cX4_lies 8 = .ok (.invokevirtual 101, 3) := by decide +kernel
theorem dX4_lies_11 : decode cX4_lies 11 = .ok (.ifCond .ne 18, 3) := by decide +kernel
theorem dX4_lies_14 : decode cX4_lies 14 = .ok (.aload_n 0, 1) := by decide +kernel
theorem dX4_lies_15 : decode cX4_lies 15 = .ok (.iconst 1, 1) := by decide +kernel
theorem dX4_lies_16 : decode cX4_lies 16 = .ok (.invokevirtual 60, 3) := by decide +kernel
theorem dX4_lies_19 : decode cX4_lies 19 = .ok (.iconst 1, 1) := by decide +kernel
theorem dX4_lies_20 : decode cX4_lies 20 = .ok (.if_icmp .ne 7, 3) := by decide +kernel
theorem dX4_lies_23 : decode cX4_lies 23 = .ok (.iconst 1, 1) := by decide +kernel
theorem dX4_lies_24 : decode cX4_lies 24 = .ok (.goto 4, 3) := by decide +kernel
theorem dX4_lies_27 : decode cX4_lies 27 = .ok (.iconst 0, 1) := by decide +kernel
theorem dX4_lies_28 : decode cX4_lies 28 = .ok (.ireturn, 1) := by decide +kernel
theorem dX4_lies_29 : decode cX4_lies 29 = .ok (.aload_n 0, 1) := by decide +kernel
theorem dX4_lies_30 : decode cX4_lies 30 = .ok (.iload_n 1, 1) := by decide +kernel
theorem dX4_lies_31 : decode cX4_lies 31 = .ok (.iload_n 2, 1) := by decide +kernel
theorem dX4_lies_32 : decode cX4_lies 32 = .ok (.invokevirtual 40, 3) := by decide +kernel
theorem dX4_lies_35 : decode cX4_lies 35 = .ok (.ireturn, 1) := by decide +kernel
theorem dX4_roofBy_0 : decode cX4_roofBy 0 = .ok (.iconst 0, 1) := by decide +kernel
theorem dX4_roofBy_1 : decode cX4_roofBy 1 = .ok (.istore_n 2, 1) := by decide +kernel
theorem dX4_roofBy_2 : decode cX4_roofBy 2 = .ok (.iconst 0, 1) := by decide +kernel
theorem dX4_roofBy_3 : decode cX4_roofBy 3 = .ok (.istore_n 3, 1) := by decide +kernel
theorem dX4_roofBy_4 : decode cX4_roofBy 4 = .ok (.iload_n 3, 1) := by decide +kernel
theorem dX4_roofBy_5 : decode cX4_roofBy 5 = .ok (.aload_n 0, 1) := by decide +kernel
theorem dX4_roofBy_6 : decode cX4_roofBy 6 = .ok (.getfield 7, 3) := by decide +kernel
theorem dX4_roofBy_9 : decode cX4_roofBy 9 = .ok (.iconst 2, 1) := by decide +kernel
theorem dX4_roofBy_10 : decode cX4_roofBy 10 = .ok (.iaload, 1) := by decide +kernel
theorem dX4_roofBy_11 : decode cX4_roofBy 11 = .ok (.if_icmp .ge 34, 3) := by decide +kernel
theorem dX4_roofBy_14 : decode cX4_roofBy 14 = .ok (.iload_n 2, 1) := by decide +kernel
theorem dX4_roofBy_15 : decode cX4_roofBy 15 = .ok (.aload_n 0, 1) := by decide +kernel
theorem dX4_roofBy_16 : decode cX4_roofBy 16 = .ok (.getfield 7, 3) := by decide +kernel
theorem dX4_roofBy_19 : decode cX4_roofBy 19 = .ok (.bipush 14, 2) := by decide +kernel
theorem dX4_roofBy_21 : decode cX4_roofBy 21 = .ok (.iload_n 3, 1) := by decide +kernel
theorem dX4_roofBy_22 : decode cX4_roofBy 22 = .ok (.iadd, 1) := by decide +kernel
theorem dX4_roofBy_23 : decode cX4_roofBy 23 = .ok (.iaload, 1) := by decide +kernel
theorem dX4_roofBy_24 : decode cX4_roofBy 24 = .ok (.iload_n 1, 1) := by decide +kernel
theorem dX4_roofBy_25 : decode cX4_roofBy 25 = .ok (.if_icmp .ne 11, 3) := by decide +kernel
theorem dX4_roofBy_28 : decode cX4_roofBy 28 = .ok (.aload_n 0, 1) := by decide +kernel
theorem dX4_roofBy_29 : decode cX4_roofBy 29 = .ok (.iload_n 3, 1) := by decide +kernel
theorem dX4_roofBy_30 : decode cX4_roofBy 30 = .ok (.invokevirtual 50, 3) := by decide +kernel
theorem dX4_roofBy_33 : decode cX4_roofBy 33 = .ok (.goto 4, 3) := by decide +kernel
theorem dX4_roofBy_36 : decode cX4_roofBy 36 = .ok (.iconst 0, 1) := by decide +kernel
theorem dX4_roofBy_37 : decode cX4_roofBy 37 = .ok (.iadd, 1) := by decide +kernel
theorem dX4_roofBy_38 : decode cX4_roofBy 38 = .ok (.istore_n 2, 1) := by decide +kernel
theorem dX4_roofBy_39 : decode cX4_roofBy 39 = .ok (.iinc 3 1, 3) := by decide +kernel
theorem dX4_roofBy_42 : decode cX4_roofBy 42 = .ok (.goto (-38), 3) := by decide +kernel
theorem dX4_roofBy_45 : decode cX4_roofBy 45 = .ok (.iload_n 2, 1) := by decide +kernel
theorem dX4_roofBy_46 : decode cX4_roofBy 46 = .ok (.ireturn, 1) := by decide +kernel
theorem dX4_slatesNow_0 : decode cX4_slatesNow 0 = .ok (.iload_n 2, 1) := by decide +kernel
theorem dX4_slatesNow_1 : decode cX4_slatesNow 1 = .ok (.tableswitch 70 0 3 #[31, 42, 53, 59], 31) := by decide +kernel
theorem dX4_slatesNow_32 : decode cX4_slatesNow 32 = .ok (.aload_n 0, 1) := by decide +kernel
theorem dX4_slatesNow_33 : decode cX4_slatesNow 33 = .ok (.getfield 7, 3) := by decide +kernel
theorem dX4_slatesNow_36 : decode cX4_slatesNow 36 = .ok (.sipush 214, 3) := by decide +kernel
theorem dX4_slatesNow_39 : decode cX4_slatesNow 39 = .ok (.iload_n 1, 1) := by decide +kernel
theorem dX4_slatesNow_40 : decode cX4_slatesNow 40 = .ok (.iadd, 1) := by decide +kernel
theorem dX4_slatesNow_41 : decode cX4_slatesNow 41 = .ok (.iaload, 1) := by decide +kernel
theorem dX4_slatesNow_42 : decode cX4_slatesNow 42 = .ok (.ireturn, 1) := by decide +kernel
theorem dX4_slatesNow_43 : decode cX4_slatesNow 43 = .ok (.aload_n 0, 1) := by decide +kernel
theorem dX4_slatesNow_44 : decode cX4_slatesNow 44 = .ok (.getfield 7, 3) := by decide +kernel
theorem dX4_slatesNow_47 : decode cX4_slatesNow 47 = .ok (.sipush 239, 3) := by decide +kernel
theorem dX4_slatesNow_50 : decode cX4_slatesNow 50 = .ok (.iload_n 1, 1) := by decide +kernel
theorem dX4_slatesNow_51 : decode cX4_slatesNow 51 = .ok (.iadd, 1) := by decide +kernel
theorem dX4_slatesNow_52 : decode cX4_slatesNow 52 = .ok (.iaload, 1) := by decide +kernel
theorem dX4_slatesNow_53 : decode cX4_slatesNow 53 = .ok (.ireturn, 1) := by decide +kernel
theorem dX4_slatesNow_54 : decode cX4_slatesNow 54 = .ok (.aload_n 0, 1) := by decide +kernel
theorem dX4_slatesNow_55 : decode cX4_slatesNow 55 = .ok (.iload_n 1, 1) := by decide +kernel
theorem dX4_slatesNow_56 : decode cX4_slatesNow 56 = .ok (.invokevirtual 152, 3) := by decide +kernel
theorem dX4_slatesNow_59 : decode cX4_slatesNow 59 = .ok (.ireturn, 1) := by decide +kernel
theorem dX4_slatesNow_60 : decode cX4_slatesNow 60 = .ok (.aload_n 0, 1) := by decide +kernel
theorem dX4_slatesNow_61 : decode cX4_slatesNow 61 = .ok (.getfield 7, 3) := by decide +kernel
theorem dX4_slatesNow_64 : decode cX4_slatesNow 64 = .ok (.sipush 264, 3) := by decide +kernel
theorem dX4_slatesNow_67 : decode cX4_slatesNow 67 = .ok (.iload_n 1, 1) := by decide +kernel
theorem dX4_slatesNow_68 : decode cX4_slatesNow 68 = .ok (.iadd, 1) := by decide +kernel
theorem dX4_slatesNow_69 : decode cX4_slatesNow 69 = .ok (.iaload, 1) := by decide +kernel
theorem dX4_slatesNow_70 : decode cX4_slatesNow 70 = .ok (.ireturn, 1) := by decide +kernel
theorem dX4_slatesNow_71 : decode cX4_slatesNow 71 = .ok (.iload_n 1, 1) := by decide +kernel
theorem dX4_slatesNow_72 : decode cX4_slatesNow 72 = .ok (.invokestatic 77, 3) := by decide +kernel
theorem dX4_slatesNow_75 : decode cX4_slatesNow 75 = .ok (.ireturn, 1) := by decide +kernel
theorem dX4_slates_0 : decode cX4_slates 0 = .ok (.aload_n 0, 1) := by decide +kernel
theorem dX4_slates_1 : decode cX4_slates 1 = .ok (.iconst 0, 1) := by decide +kernel
theorem dX4_slates_2 : decode cX4_slates 2 = .ok (.putfield 25, 3) := by decide +kernel
theorem dX4_slates_5 : decode cX4_slates 5 = .ok (.iload_n 1, 1) := by decide +kernel
theorem dX4_slates_6 : decode cX4_slates 6 = .ok (.invokestatic 69, 3) := by decide +kernel
theorem dX4_slates_9 : decode cX4_slates 9 = .ok (.ifCond .eq 21, 3) := by decide +kernel
theorem dX4_slates_12 : decode cX4_slates 12 = .ok (.iload_n 2, 1) := by decide +kernel
theorem dX4_slates_13 : decode cX4_slates 13 = .ok (.iconst 0, 1) := by decide +kernel
theorem dX4_slates_14 : decode cX4_slates 14 = .ok (.iconst 4, 1) := by decide +kernel
theorem dX4_slates_15 : decode cX4_slates 15 = .ok (.invokestatic 29, 3) := by decide +kernel
theorem dX4_slates_18 : decode cX4_slates 18 = .ok (.ifCond .eq 12, 3) := by decide +kernel
theorem dX4_slates_21 : decode cX4_slates 21 = .ok (.aload_n 0, 1) := by decide +kernel
theorem dX4_slates_22 : decode cX4_slates 22 = .ok (.iload_n 1, 1) := by decide +kernel
theorem dX4_slates_23 : decode cX4_slates 23 = .ok (.iload_n 2, 1) := by decide +kernel
theorem dX4_slates_24 : decode cX4_slates 24 = .ok (.invokevirtual 155, 3) := by decide +kernel
theorem dX4_slates_27 : decode cX4_slates 27 = .ok (.goto 8, 3) := by decide +kernel
theorem dX4_slates_30 : decode cX4_slates 30 = .ok (.aload_n 0, 1) := by decide +kernel
theorem dX4_slates_31 : decode cX4_slates 31 = .ok (.iconst 1, 1) := by decide +kernel
theorem dX4_slates_32 : decode cX4_slates 32 = .ok (.invokevirtual 60, 3) := by decide +kernel
theorem dX4_slates_35 : decode cX4_slates 35 = .ok (.ireturn, 1) := by decide +kernel
theorem dX4_counted_0 : decode cX4_counted 0 = .ok (.iload_n 1, 1) := by decide +kernel
theorem dX4_counted_1 : decode cX4_counted 1 = .ok (.tableswitch 224 0 17 #[87, 94, 101, 108, 113, 118, 123, 136, 144, 152, 160, 168, 176, 184, 192, 200, 208, 216], 87) := by decide +kernel
theorem dX4_counted_88 : decode cX4_counted 88 = .ok (.aload_n 0, 1) := by decide +kernel
theorem dX4_counted_89 : decode cX4_counted 89 = .ok (.getfield 7, 3) := by decide +kernel
theorem dX4_counted_92 : decode cX4_counted 92 = .ok (.iconst 0, 1) := by decide +kernel
theorem dX4_counted_93 : decode cX4_counted 93 = .ok (.iaload, 1) := by decide +kernel
theorem dX4_counted_94 : decode cX4_counted 94 = .ok (.ireturn, 1) := by decide +kernel
theorem dX4_counted_95 : decode cX4_counted 95 = .ok (.aload_n 0, 1) := by decide +kernel
theorem dX4_counted_96 : decode cX4_counted 96 = .ok (.getfield 7, 3) := by decide +kernel
theorem dX4_counted_99 : decode cX4_counted 99 = .ok (.iconst 1, 1) := by decide +kernel
theorem dX4_counted_100 : decode cX4_counted 100 = .ok (.iaload, 1) := by decide +kernel
theorem dX4_counted_101 : decode cX4_counted 101 = .ok (.ireturn, 1) := by decide +kernel
theorem dX4_counted_102 : decode cX4_counted 102 = .ok (.aload_n 0, 1) := by decide +kernel
theorem dX4_counted_103 : decode cX4_counted 103 = .ok (.getfield 7, 3) := by decide +kernel
theorem dX4_counted_106 : decode cX4_counted 106 = .ok (.iconst 2, 1) := by decide +kernel
theorem dX4_counted_107 : decode cX4_counted 107 = .ok (.iaload, 1) := by decide +kernel
theorem dX4_counted_108 : decode cX4_counted 108 = .ok (.ireturn, 1) := by decide +kernel
theorem dX4_counted_109 : decode cX4_counted 109 = .ok (.aload_n 0, 1) := by decide +kernel
theorem dX4_counted_110 : decode cX4_counted 110 = .ok (.invokevirtual 53, 3) := by decide +kernel
theorem dX4_counted_113 : decode cX4_counted 113 = .ok (.ireturn, 1) := by decide +kernel
theorem dX4_counted_114 : decode cX4_counted 114 = .ok (.aload_n 0, 1) := by decide +kernel
theorem dX4_counted_115 : decode cX4_counted 115 = .ok (.invokevirtual 66, 3) := by decide +kernel
theorem dX4_counted_118 : decode cX4_counted 118 = .ok (.ireturn, 1) := by decide +kernel
theorem dX4_counted_119 : decode cX4_counted 119 = .ok (.aload_n 0, 1) := by decide +kernel
theorem dX4_counted_120 : decode cX4_counted 120 = .ok (.invokevirtual 57, 3) := by decide +kernel
theorem dX4_counted_123 : decode cX4_counted 123 = .ok (.ireturn, 1) := by decide +kernel
theorem dX4_counted_124 : decode cX4_counted 124 = .ok (.aload_n 0, 1) := by decide +kernel
theorem dX4_counted_125 : decode cX4_counted 125 = .ok (.invokevirtual 107, 3) := by decide +kernel
theorem dX4_counted_128 : decode cX4_counted 128 = .ok (.ifCond .eq 7, 3) := by decide +kernel
theorem dX4_counted_131 : decode cX4_counted 131 = .ok (.iconst 1, 1) := by decide +kernel
theorem dX4_counted_132 : decode cX4_counted 132 = .ok (.goto 4, 3) := by decide +kernel
theorem dX4_counted_135 : decode cX4_counted 135 = .ok (.iconst 0, 1) := by decide +kernel
theorem dX4_counted_136 : decode cX4_counted 136 = .ok (.ireturn, 1) := by decide +kernel
theorem dX4_counted_137 : decode cX4_counted 137 = .ok (.aload_n 0, 1) := by decide +kernel
theorem dX4_counted_138 : decode cX4_counted 138 = .ok (.getfield 7, 3) := by decide +kernel
theorem dX4_counted_141 : decode cX4_counted 141 = .ok (.bipush 6, 2) := by decide +kernel
theorem dX4_counted_143 : decode cX4_counted 143 = .ok (.iaload, 1) := by decide +kernel
theorem dX4_counted_144 : decode cX4_counted 144 = .ok (.ireturn, 1) := by decide +kernel
theorem dX4_counted_145 : decode cX4_counted 145 = .ok (.aload_n 0, 1) := by decide +kernel
theorem dX4_counted_146 : decode cX4_counted 146 = .ok (.getfield 7, 3) := by decide +kernel
theorem dX4_counted_149 : decode cX4_counted 149 = .ok (.bipush 7, 2) := by decide +kernel
theorem dX4_counted_151 : decode cX4_counted 151 = .ok (.iaload, 1) := by decide +kernel
theorem dX4_counted_152 : decode cX4_counted 152 = .ok (.ireturn, 1) := by decide +kernel
theorem dX4_counted_153 : decode cX4_counted 153 = .ok (.aload_n 0, 1) := by decide +kernel
theorem dX4_counted_154 : decode cX4_counted 154 = .ok (.getfield 7, 3) := by decide +kernel
theorem dX4_counted_157 : decode cX4_counted 157 = .ok (.bipush 8, 2) := by decide +kernel
theorem dX4_counted_159 : decode cX4_counted 159 = .ok (.iaload, 1) := by decide +kernel
theorem dX4_counted_160 : decode cX4_counted 160 = .ok (.ireturn, 1) := by decide +kernel
theorem dX4_counted_161 : decode cX4_counted 161 = .ok (.aload_n 0, 1) := by decide +kernel
theorem dX4_counted_162 : decode cX4_counted 162 = .ok (.getfield 7, 3) := by decide +kernel
theorem dX4_counted_165 : decode cX4_counted 165 = .ok (.bipush 9, 2) := by decide +kernel
theorem dX4_counted_167 : decode cX4_counted 167 = .ok (.iaload, 1) := by decide +kernel
theorem dX4_counted_168 : decode cX4_counted 168 = .ok (.ireturn, 1) := by decide +kernel
theorem dX4_counted_169 : decode cX4_counted 169 = .ok (.aload_n 0, 1) := by decide +kernel
theorem dX4_counted_170 : decode cX4_counted 170 = .ok (.sipush 264, 3) := by decide +kernel
theorem dX4_counted_173 : decode cX4_counted 173 = .ok (.invokevirtual 73, 3) := by decide +kernel
theorem dX4_counted_176 : decode cX4_counted 176 = .ok (.ireturn, 1) := by decide +kernel
theorem dX4_counted_177 : decode cX4_counted 177 = .ok (.aload_n 0, 1) := by decide +kernel
theorem dX4_counted_178 : decode cX4_counted 178 = .ok (.sipush 214, 3) := by decide +kernel
theorem dX4_counted_181 : decode cX4_counted 181 = .ok (.invokevirtual 73, 3) := by decide +kernel
theorem dX4_counted_184 : decode cX4_counted 184 = .ok (.ireturn, 1) := by decide +kernel
theorem dX4_counted_185 : decode cX4_counted 185 = .ok (.aload_n 0, 1) := by decide +kernel
theorem dX4_counted_186 : decode cX4_counted 186 = .ok (.sipush 239, 3) := by decide +kernel
theorem dX4_counted_189 : decode cX4_counted 189 = .ok (.invokevirtual 73, 3) := by decide +kernel
theorem dX4_counted_192 : decode cX4_counted 192 = .ok (.ireturn, 1) := by decide +kernel
theorem dX4_counted_193 : decode cX4_counted 193 = .ok (.aload_n 0, 1) := by decide +kernel
theorem dX4_counted_194 : decode cX4_counted 194 = .ok (.getfield 7, 3) := by decide +kernel
theorem dX4_counted_197 : decode cX4_counted 197 = .ok (.bipush 10, 2) := by decide +kernel
theorem dX4_counted_199 : decode cX4_counted 199 = .ok (.iaload, 1) := by decide +kernel
theorem dX4_counted_200 : decode cX4_counted 200 = .ok (.ireturn, 1) := by decide +kernel
theorem dX4_counted_201 : decode cX4_counted 201 = .ok (.aload_n 0, 1) := by decide +kernel
theorem dX4_counted_202 : decode cX4_counted 202 = .ok (.getfield 7, 3) := by decide +kernel
theorem dX4_counted_205 : decode cX4_counted 205 = .ok (.bipush 11, 2) := by decide +kernel
theorem dX4_counted_207 : decode cX4_counted 207 = .ok (.iaload, 1) := by decide +kernel
theorem dX4_counted_208 : decode cX4_counted 208 = .ok (.ireturn, 1) := by decide +kernel
theorem dX4_counted_209 : decode cX4_counted 209 = .ok (.aload_n 0, 1) := by decide +kernel
theorem dX4_counted_210 : decode cX4_counted 210 = .ok (.getfield 7, 3) := by decide +kernel
theorem dX4_counted_213 : decode cX4_counted 213 = .ok (.bipush 12, 2) := by decide +kernel
theorem dX4_counted_215 : decode cX4_counted 215 = .ok (.iaload, 1) := by decide +kernel
theorem dX4_counted_216 : decode cX4_counted 216 = .ok (.ireturn, 1) := by decide +kernel
theorem dX4_counted_217 : decode cX4_counted 217 = .ok (.aload_n 0, 1) := by decide +kernel
theorem dX4_counted_218 : decode cX4_counted 218 = .ok (.getfield 7, 3) := by decide +kernel
theorem dX4_counted_221 : decode cX4_counted 221 = .ok (.bipush 13, 2) := by decide +kernel
theorem dX4_counted_223 : decode cX4_counted 223 = .ok (.iaload, 1) := by decide +kernel
theorem dX4_counted_224 : decode cX4_counted 224 = .ok (.ireturn, 1) := by decide +kernel
theorem dX4_counted_225 : decode cX4_counted 225 = .ok (.aload_n 0, 1) := by decide +kernel
theorem dX4_counted_226 : decode cX4_counted 226 = .ok (.getfield 33, 3) := by decide +kernel
theorem dX4_counted_229 : decode cX4_counted 229 = .ok (.ireturn, 1) := by decide +kernel
theorem dX4_count_0 : decode cX4_count 0 = .ok (.aload_n 0, 1) := by decide +kernel
theorem dX4_count_1 : decode cX4_count 1 = .ok (.iconst 0, 1) := by decide +kernel
theorem dX4_count_2 : decode cX4_count 2 = .ok (.putfield 25, 3) := by decide +kernel
theorem dX4_count_5 : decode cX4_count 5 = .ok (.iload_n 1, 1) := by decide +kernel
theorem dX4_count_6 : decode cX4_count 6 = .ok (.iconst 0, 1) := by decide +kernel
theorem dX4_count_7 : decode cX4_count 7 = .ok (.bipush 18, 2) := by decide +kernel
theorem dX4_count_9 : decode cX4_count 9 = .ok (.invokestatic 29, 3) := by decide +kernel
theorem dX4_count_12 : decode cX4_count 12 = .ok (.ifCond .eq 11, 3) := by decide +kernel
theorem dX4_count_15 : decode cX4_count 15 = .ok (.aload_n 0, 1) := by decide +kernel
theorem dX4_count_16 : decode cX4_count 16 = .ok (.iload_n 1, 1) := by decide +kernel
theorem dX4_count_17 : decode cX4_count 17 = .ok (.invokevirtual 158, 3) := by decide +kernel
theorem dX4_count_20 : decode cX4_count 20 = .ok (.goto 8, 3) := by decide +kernel
theorem dX4_count_23 : decode cX4_count 23 = .ok (.aload_n 0, 1) := by decide +kernel
theorem dX4_count_24 : decode cX4_count 24 = .ok (.iconst 1, 1) := by decide +kernel
theorem dX4_count_25 : decode cX4_count 25 = .ok (.invokevirtual 60, 3) := by decide +kernel
theorem dX4_count_28 : decode cX4_count 28 = .ok (.ireturn, 1) := by decide +kernel
theorem dX4_setting_0 : decode cX4_setting 0 = .ok (.aload_n 0, 1) := by decide +kernel
theorem dX4_setting_1 : decode cX4_setting 1 = .ok (.iconst 0, 1) := by decide +kernel
theorem dX4_setting_2 : decode cX4_setting 2 = .ok (.putfield 25, 3) := by decide +kernel
theorem dX4_setting_5 : decode cX4_setting 5 = .ok (.iload_n 1, 1) := by decide +kernel
theorem dX4_setting_6 : decode cX4_setting 6 = .ok (.iconst 0, 1) := by decide +kernel
theorem dX4_setting_7 : decode cX4_setting 7 = .ok (.iconst 2, 1) := by decide +kernel
theorem dX4_setting_8 : decode cX4_setting 8 = .ok (.invokestatic 29, 3) := by decide +kernel
theorem dX4_setting_11 : decode cX4_setting 11 = .ok (.ifCond .eq 14, 3) := by decide +kernel
theorem dX4_setting_14 : decode cX4_setting 14 = .ok (.aload_n 0, 1) := by decide +kernel
theorem dX4_setting_15 : decode cX4_setting 15 = .ok (.getfield 7, 3) := by decide +kernel
theorem dX4_setting_18 : decode cX4_setting 18 = .ok (.iconst 3, 1) := by decide +kernel
theorem dX4_setting_19 : decode cX4_setting 19 = .ok (.iload_n 1, 1) := by decide +kernel
theorem dX4_setting_20 : decode cX4_setting 20 = .ok (.iadd, 1) := by decide +kernel
theorem dX4_setting_21 : decode cX4_setting 21 = .ok (.iaload, 1) := by decide +kernel
theorem dX4_setting_22 : decode cX4_setting 22 = .ok (.goto 8, 3) := by decide +kernel
theorem dX4_setting_25 : decode cX4_setting 25 = .ok (.aload_n 0, 1) := by decide +kernel
theorem dX4_setting_26 : decode cX4_setting 26 = .ok (.iconst 1, 1) := by decide +kernel
theorem dX4_setting_27 : decode cX4_setting 27 = .ok (.invokevirtual 60, 3) := by decide +kernel
theorem dX4_setting_30 : decode cX4_setting 30 = .ok (.ireturn, 1) := by decide +kernel
theorem dX4_toTopNow_0 : decode cX4_toTopNow 0 = .ok (.iload_n 1, 1) := by decide +kernel
theorem dX4_toTopNow_1 : decode cX4_toTopNow 1 = .ok (.aload_n 0, 1) := by decide +kernel
theorem dX4_toTopNow_2 : decode cX4_toTopNow 2 = .ok (.invokevirtual 84, 3) := by decide +kernel
theorem dX4_toTopNow_5 : decode cX4_toTopNow 5 = .ok (.if_icmp .le 5, 3) := by decide +kernel
theorem dX4_toTopNow_8 : decode cX4_toTopNow 8 = .ok (.iconst (-1), 1) := by decide +kernel
theorem dX4_toTopNow_9 : decode cX4_toTopNow 9 = .ok (.ireturn, 1) := by decide +kernel
theorem dX4_toTopNow_10 : decode cX4_toTopNow 10 = .ok (.aload_n 0, 1) := by decide +kernel
theorem dX4_toTopNow_11 : decode cX4_toTopNow 11 = .ok (.invokevirtual 53, 3) := by decide +kernel
theorem dX4_toTopNow_14 : decode cX4_toTopNow 14 = .ok (.istore_n 3, 1) := by decide +kernel
theorem dX4_toTopNow_15 : decode cX4_toTopNow 15 = .ok (.iconst 0, 1) := by decide +kernel
theorem dX4_toTopNow_16 : decode cX4_toTopNow 16 = .ok (.istore 4, 2) := by decide +kernel
theorem dX4_toTopNow_18 : decode cX4_toTopNow 18 = .ok (.iconst 0, 1) := by decide +kernel
theorem dX4_toTopNow_19 : decode cX4_toTopNow 19 = .ok (.istore 5, 2) := by decide +kernel
theorem dX4_toTopNow_21 : decode cX4_toTopNow 21 = .ok (.iload_n 3, 1) := by decide +kernel
theorem dX4_toTopNow_22 : decode cX4_toTopNow 22 = .ok (.aload_n 0, 1) := by decide +kernel
theorem dX4_toTopNow_23 : decode cX4_toTopNow 23 = .ok (.getfield 7, 3) := by decide +kernel
theorem dX4_toTopNow_26 : decode cX4_toTopNow 26 = .ok (.iconst 0, 1) := by decide +kernel
theorem dX4_toTopNow_27 : decode cX4_toTopNow 27 = .ok (.iaload, 1) := by decide +kernel
theorem dX4_toTopNow_28 : decode cX4_toTopNow 28 = .ok (.if_icmp .ge 35, 3) := by decide +kernel
theorem dX4_toTopNow_31 : decode cX4_toTopNow 31 = .ok (.iload_n 3, 1) := by decide +kernel
theorem dX4_toTopNow_32 : decode cX4_toTopNow 32 = .ok (.aload_n 0, 1) := by decide +kernel
theorem dX4_toTopNow_33 : decode cX4_toTopNow 33 = .ok (.iload_n 1, 1) := by decide +kernel
theorem dX4_toTopNow_34 : decode cX4_toTopNow 34 = .ok (.invokevirtual 44, 3) := by decide +kernel
theorem dX4_toTopNow_37 : decode cX4_toTopNow 37 = .ok (.iadd, 1) := by decide +kernel
theorem dX4_toTopNow_38 : decode cX4_toTopNow 38 = .ok (.istore_n 3, 1) := by decide +kernel
theorem dX4_toTopNow_39 : decode cX4_toTopNow 39 = .ok (.iload 5, 2) := by decide +kernel
theorem dX4_toTopNow_41 : decode cX4_toTopNow 41 = .ok (.aload_n 0, 1) := by decide +kernel
theorem dX4_toTopNow_42 : decode cX4_toTopNow 42 = .ok (.aload_n 0, 1) := by decide +kernel
theorem dX4_toTopNow_43 : decode cX4_toTopNow 43 = .ok (.getfield 7, 3) := by decide +kernel
theorem dX4_toTopNow_46 : decode cX4_toTopNow 46 = .ok (.iconst 2, 1) := by decide +kernel
theorem dX4_toTopNow_47 : decode cX4_toTopNow 47 = .ok (.iaload, 1) := by decide +kernel
theorem dX4_toTopNow_48 : decode cX4_toTopNow 48 = .ok (.iload 4, 2) := by decide +kernel
theorem dX4_toTopNow_50 : decode cX4_toTopNow 50 = .ok (.iadd, 1) := by decide +kernel
theorem dX4_toTopNow_51 : decode cX4_toTopNow 51 = .ok (.invokevirtual 36, 3) := by decide +kernel
theorem dX4_toTopNow_54 : decode cX4_toTopNow 54 = .ok (.iadd, 1) := by decide +kernel
theorem dX4_toTopNow_55 : decode cX4_toTopNow 55 = .ok (.istore 5, 2) := by decide +kernel
theorem dX4_toTopNow_57 : decode cX4_toTopNow 57 = .ok (.iinc 4 1, 3) := by decide +kernel
theorem dX4_toTopNow_60 : decode cX4_toTopNow 60 = .ok (.goto (-39), 3) := by decide +kernel
theorem dX4_toTopNow_63 : decode cX4_toTopNow 63 = .ok (.iload_n 2, 1) := by decide +kernel
theorem dX4_toTopNow_64 : decode cX4_toTopNow 64 = .ok (.ifCond .ne 8, 3) := by decide +kernel
theorem dX4_toTopNow_67 : decode cX4_toTopNow 67 = .ok (.iload 4, 2) := by decide +kernel
theorem dX4_toTopNow_69 : decode cX4_toTopNow 69 = .ok (.goto 5, 3) := by decide +kernel
theorem dX4_toTopNow_72 : decode cX4_toTopNow 72 = .ok (.iload 5, 2) := by decide +kernel
theorem dX4_toTopNow_74 : decode cX4_toTopNow 74 = .ok (.ireturn, 1) := by decide +kernel
theorem dX4_toTop_0 : decode cX4_toTop 0 = .ok (.aload_n 0, 1) := by decide +kernel
theorem dX4_toTop_1 : decode cX4_toTop 1 = .ok (.iconst 0, 1) := by decide +kernel
theorem dX4_toTop_2 : decode cX4_toTop 2 = .ok (.putfield 25, 3) := by decide +kernel
theorem dX4_toTop_5 : decode cX4_toTop 5 = .ok (.iload_n 1, 1) := by decide +kernel
theorem dX4_toTop_6 : decode cX4_toTop 6 = .ok (.invokestatic 69, 3) := by decide +kernel
theorem dX4_toTop_9 : decode cX4_toTop 9 = .ok (.ifCond .eq 21, 3) := by decide +kernel
theorem dX4_toTop_12 : decode cX4_toTop 12 = .ok (.iload_n 2, 1) := by decide +kernel
theorem dX4_toTop_13 : decode cX4_toTop 13 = .ok (.iconst 0, 1) := by decide +kernel
theorem dX4_toTop_14 : decode cX4_toTop 14 = .ok (.iconst 1, 1) := by decide +kernel
theorem dX4_toTop_15 : decode cX4_toTop 15 = .ok (.invokestatic 29, 3) := by decide +kernel
theorem dX4_toTop_18 : decode cX4_toTop 18 = .ok (.ifCond .eq 12, 3) := by decide +kernel
theorem dX4_toTop_21 : decode cX4_toTop 21 = .ok (.aload_n 0, 1) := by decide +kernel
theorem dX4_toTop_22 : decode cX4_toTop 22 = .ok (.iload_n 1, 1) := by decide +kernel
theorem dX4_toTop_23 : decode cX4_toTop 23 = .ok (.iload_n 2, 1) := by decide +kernel
theorem dX4_toTop_24 : decode cX4_toTop 24 = .ok (.invokevirtual 161, 3) := by decide +kernel
theorem dX4_toTop_27 : decode cX4_toTop 27 = .ok (.goto 8, 3) := by decide +kernel
theorem dX4_toTop_30 : decode cX4_toTop 30 = .ok (.aload_n 0, 1) := by decide +kernel
theorem dX4_toTop_31 : decode cX4_toTop 31 = .ok (.iconst 1, 1) := by decide +kernel
theorem dX4_toTop_32 : decode cX4_toTop 32 = .ok (.invokevirtual 60, 3) := by decide +kernel
theorem dX4_toTop_35 : decode cX4_toTop 35 = .ok (.ireturn, 1) := by decide +kernel
theorem dX4_reachNow_0 : decode cX4_reachNow 0 = .ok (.aload_n 0, 1) := by decide +kernel
theorem dX4_reachNow_1 : decode cX4_reachNow 1 = .ok (.invokevirtual 164, 3) := by decide +kernel
theorem dX4_reachNow_4 : decode cX4_reachNow 4 = .ok (.iconst 0, 1) := by decide +kernel
theorem dX4_reachNow_5 : decode cX4_reachNow 5 = .ok (.istore_n 2, 1) := by decide +kernel
theorem dX4_reachNow_6 : decode cX4_reachNow 6 = .ok (.aload_n 0, 1) := by decide +kernel
theorem dX4_reachNow_7 : decode cX4_reachNow 7 = .ok (.iconst (-1), 1) := by decide +kernel
theorem dX4_reachNow_8 : decode cX4_reachNow 8 = .ok (.putfield 167, 3) := by decide +kernel
theorem dX4_reachNow_11 : decode cX4_reachNow 11 = .ok (.aload_n 0, 1) := by decide +kernel
theorem dX4_reachNow_12 : decode cX4_reachNow 12 = .ok (.invokevirtual 120, 3) := by decide +kernel
theorem dX4_reachNow_15 : decode cX4_reachNow 15 = .ok (.istore_n 3, 1) := by decide +kernel
theorem dX4_reachNow_16 : decode cX4_reachNow 16 = .ok (.aload_n 0, 1) := by decide +kernel
theorem dX4_reachNow_17 : decode cX4_reachNow 17 = .ok (.invokevirtual 53, 3) := by decide +kernel
theorem dX4_reachNow_20 : decode cX4_reachNow 20 = .ok (.aload_n 0, 1) := by decide +kernel
theorem dX4_reachNow_21 : decode cX4_reachNow 21 = .ok (.getfield 7, 3) := by decide +kernel
theorem dX4_reachNow_24 : decode cX4_reachNow 24 = .ok (.iconst 0, 1) := by decide +kernel
theorem dX4_reachNow_25 : decode cX4_reachNow 25 = .ok (.iaload, 1) := by decide +kernel
theorem dX4_reachNow_26 : decode cX4_reachNow 26 = .ok (.if_icmp .ge 63, 3) := by decide +kernel
theorem dX4_reachNow_29 : decode cX4_reachNow 29 = .ok (.aload_n 0, 1) := by decide +kernel
theorem dX4_reachNow_30 : decode cX4_reachNow 30 = .ok (.getfield 7, 3) := by decide +kernel
theorem dX4_reachNow_33 : decode cX4_reachNow 33 = .ok (.iconst 2, 1) := by decide +kernel
theorem dX4_reachNow_34 : decode cX4_reachNow 34 = .ok (.iaload, 1) := by decide +kernel
theorem dX4_reachNow_35 : decode cX4_reachNow 35 = .ok (.bipush 100, 2) := by decide +kernel
theorem dX4_reachNow_37 : decode cX4_reachNow 37 = .ok (.if_icmp .ge 52, 3) := by decide +kernel
theorem dX4_reachNow_40 : decode cX4_reachNow 40 = .ok (.iload_n 3, 1) := by decide +kernel
theorem dX4_reachNow_41 : decode cX4_reachNow 41 = .ok (.iconst (-1), 1) := by decide +kernel
theorem dX4_reachNow_42 : decode cX4_reachNow 42 = .ok (.if_icmp .eq 47, 3) := by decide +kernel
theorem dX4_reachNow_45 : decode cX4_reachNow 45 = .ok (.aload_n 0, 1) := by decide +kernel
theorem dX4_reachNow_46 : decode cX4_reachNow 46 = .ok (.getfield 7, 3) := by decide +kernel
theorem dX4_reachNow_49 : decode cX4_reachNow 49 = .ok (.sipush 214, 3) := by decide +kernel
theorem dX4_reachNow_52 : decode cX4_reachNow 52 = .ok (.iload_n 3, 1) := by decide +kernel
theorem dX4_reachNow_53 : decode cX4_reachNow 53 = .ok (.iadd, 1) := by decide +kernel
theorem dX4_reachNow_54 : decode cX4_reachNow 54 = .ok (.dup2, 1) := by decide +kernel
theorem dX4_reachNow_55 : decode cX4_reachNow 55 = .ok (.iaload, 1) := by decide +kernel
theorem dX4_reachNow_56 : decode cX4_reachNow 56 = .ok (.aload_n 0, 1) := by decide +kernel
theorem dX4_reachNow_57 : decode cX4_reachNow 57 = .ok (.aload_n 0, 1) := by decide +kernel
theorem dX4_reachNow_58 : decode cX4_reachNow 58 = .ok (.getfield 7, 3) := by decide +kernel
theorem dX4_reachNow_61 : decode cX4_reachNow 61 = .ok (.iconst 2, 1) := by decide +kernel
theorem dX4_reachNow_62 : decode cX4_reachNow 62 = .ok (.iaload, 1) := by decide +kernel
theorem dX4_reachNow_63 : decode cX4_reachNow 63 = .ok (.invokevirtual 36, 3) := by decide +kernel
theorem dX4_reachNow_66 : decode cX4_reachNow 66 = .ok (.isub, 1) := by decide +kernel
theorem dX4_reachNow_67 : decode cX4_reachNow 67 = .ok (.iastore, 1) := by decide +kernel
theorem dX4_reachNow_68 : decode cX4_reachNow 68 = .ok (.aload_n 0, 1) := by decide +kernel
theorem dX4_reachNow_69 : decode cX4_reachNow 69 = .ok (.iload_n 3, 1) := by decide +kernel
theorem dX4_reachNow_70 : decode cX4_reachNow 70 = .ok (.invokevirtual 93, 3) := by decide +kernel
theorem dX4_reachNow_73 : decode cX4_reachNow 73 = .ok (.iinc 2 1, 3) := by decide +kernel
theorem dX4_reachNow_76 : decode cX4_reachNow 76 = .ok (.aload_n 0, 1) := by decide +kernel
theorem dX4_reachNow_77 : decode cX4_reachNow 77 = .ok (.iload_n 3, 1) := by decide +kernel
theorem dX4_reachNow_78 : decode cX4_reachNow 78 = .ok (.putfield 167, 3) := by decide +kernel
theorem dX4_reachNow_81 : decode cX4_reachNow 81 = .ok (.aload_n 0, 1) := by decide +kernel
theorem dX4_reachNow_82 : decode cX4_reachNow 82 = .ok (.invokevirtual 120, 3) := by decide +kernel
theorem dX4_reachNow_85 : decode cX4_reachNow 85 = .ok (.istore_n 3, 1) := by decide +kernel
theorem dX4_reachNow_86 : decode cX4_reachNow 86 = .ok (.goto (-70), 3) := by decide +kernel
theorem dX4_reachNow_89 : decode cX4_reachNow 89 = .ok (.aload_n 0, 1) := by decide +kernel
theorem dX4_reachNow_90 : decode cX4_reachNow 90 = .ok (.aload_n 0, 1) := by decide +kernel
theorem dX4_reachNow_91 : decode cX4_reachNow 91 = .ok (.invokevirtual 53, 3) := by decide +kernel
theorem dX4_reachNow_94 : decode cX4_reachNow 94 = .ok (.putfield 170, 3) := by decide +kernel
theorem dX4_reachNow_97 : decode cX4_reachNow 97 = .ok (.aload_n 0, 1) := by decide +kernel
theorem dX4_reachNow_98 : decode cX4_reachNow 98 = .ok (.aload_n 0, 1) := by decide +kernel
theorem dX4_reachNow_99 : decode cX4_reachNow 99 = .ok (.sipush 214, 3) := by decide +kernel
theorem dX4_reachNow_102 : decode cX4_reachNow 102 = .ok (.invokevirtual 73, 3) := by decide +kernel
theorem dX4_reachNow_105 : decode cX4_reachNow 105 = .ok (.putfield 173, 3) := by decide +kernel
theorem dX4_reachNow_108 : decode cX4_reachNow 108 = .ok (.aload_n 0, 1) := by decide +kernel
theorem dX4_reachNow_109 : decode cX4_reachNow 109 = .ok (.invokevirtual 176, 3) := by decide +kernel
theorem dX4_reachNow_112 : decode cX4_reachNow 112 = .ok (.iload_n 1, 1) := by decide +kernel
theorem dX4_reachNow_113 : decode cX4_reachNow 113 = .ok (.ifCond .ne 7, 3) := by decide +kernel
theorem dX4_reachNow_116 : decode cX4_reachNow 116 = .ok (.iload_n 2, 1) := by decide +kernel
theorem dX4_reachNow_117 : decode cX4_reachNow 117 = .ok (.goto 31, 3) := by decide +kernel
theorem dX4_reachNow_120 : decode cX4_reachNow 120 = .ok (.iload_n 1, 1) := by decide +kernel
theorem dX4_reachNow_121 : decode cX4_reachNow 121 = .ok (.iconst 1, 1) := by decide +kernel
theorem dX4_reachNow_122 : decode cX4_reachNow 122 = .ok (.if_icmp .ne 10, 3) := by decide +kernel
theorem dX4_reachNow_125 : decode cX4_reachNow 125 = .ok (.aload_n 0, 1) := by decide +kernel
theorem dX4_reachNow_126 : decode cX4_reachNow 126 = .ok (.getfield 170, 3) := by decide +kernel
theorem dX4_reachNow_129 : decode cX4_reachNow 129 = .ok (.goto 19, 3) := by decide +kernel
theorem dX4_reachNow_132 : decode cX4_reachNow 132 = .ok (.iload_n 1, 1) := by decide +kernel
theorem dX4_reachNow_133 : decode cX4_reachNow 133 = .ok (.iconst 2, 1) := by decide +kernel
theorem dX4_reachNow_134 : decode cX4_reachNow 134 = .ok (.if_icmp .ne 10, 3) := by decide +kernel
theorem dX4_reachNow_137 : decode cX4_reachNow 137 = .ok (.aload_n 0, 1) := by decide +kernel
theorem dX4_reachNow_138 : decode cX4_reachNow 138 = .ok (.getfield 173, 3) := by decide +kernel
theorem dX4_reachNow_141 : decode cX4_reachNow 141 = .ok (.goto 7, 3) := by decide +kernel
theorem dX4_reachNow_144 : decode cX4_reachNow 144 = .ok (.aload_n 0, 1) := by decide +kernel
theorem dX4_reachNow_145 : decode cX4_reachNow 145 = .ok (.getfield 167, 3) := by decide +kernel
theorem dX4_reachNow_148 : decode cX4_reachNow 148 = .ok (.ireturn, 1) := by decide +kernel
theorem dX4_reach_0 : decode cX4_reach 0 = .ok (.aload_n 0, 1) := by decide +kernel
theorem dX4_reach_1 : decode cX4_reach 1 = .ok (.iconst 0, 1) := by decide +kernel
theorem dX4_reach_2 : decode cX4_reach 2 = .ok (.putfield 25, 3) := by decide +kernel
theorem dX4_reach_5 : decode cX4_reach 5 = .ok (.iload_n 1, 1) := by decide +kernel
theorem dX4_reach_6 : decode cX4_reach 6 = .ok (.iconst 0, 1) := by decide +kernel
theorem dX4_reach_7 : decode cX4_reach 7 = .ok (.iconst 3, 1) := by decide +kernel
theorem dX4_reach_8 : decode cX4_reach 8 = .ok (.invokestatic 29, 3) := by decide +kernel
theorem dX4_reach_11 : decode cX4_reach 11 = .ok (.ifCond .eq 11, 3) := by decide +kernel
theorem dX4_reach_14 : decode cX4_reach 14 = .ok (.aload_n 0, 1) := by decide +kernel
theorem dX4_reach_15 : decode cX4_reach 15 = .ok (.iload_n 1, 1) := by decide +kernel
theorem dX4_reach_16 : decode cX4_reach 16 = .ok (.invokevirtual 179, 3) := by decide +kernel
theorem dX4_reach_19 : decode cX4_reach 19 = .ok (.goto 8, 3) := by decide +kernel
theorem dX4_reach_22 : decode cX4_reach 22 = .ok (.aload_n 0, 1) := by decide +kernel
theorem dX4_reach_23 : decode cX4_reach 23 = .ok (.iconst 1, 1) := by decide +kernel
theorem dX4_reach_24 : decode cX4_reach 24 = .ok (.invokevirtual 60, 3) := by decide +kernel
theorem dX4_reach_27 : decode cX4_reach 27 = .ok (.ireturn, 1) := by decide +kernel
theorem dX4_dryNow_0 : decode cX4_dryNow 0 = .ok (.aload_n 0, 1) := by decide +kernel
theorem dX4_dryNow_1 : decode cX4_dryNow 1 = .ok (.invokevirtual 164, 3) := by decide +kernel
theorem dX4_dryNow_4 : decode cX4_dryNow 4 = .ok (.aload_n 0, 1) := by decide +kernel
theorem dX4_dryNow_5 : decode cX4_dryNow 5 = .ok (.getfield 7, 3) := by decide +kernel
theorem dX4_dryNow_8 : decode cX4_dryNow 8 = .ok (.bipush 9, 2) := by decide +kernel
theorem dX4_dryNow_10 : decode cX4_dryNow 10 = .ok (.iconst 0, 1) := by decide +kernel
theorem dX4_dryNow_11 : decode cX4_dryNow 11 = .ok (.iastore, 1) := by decide +kernel
theorem dX4_dryNow_12 : decode cX4_dryNow 12 = .ok (.iconst 0, 1) := by decide +kernel
theorem dX4_dryNow_13 : decode cX4_dryNow 13 = .ok (.istore_n 1, 1) := by decide +kernel
theorem dX4_dryNow_14 : decode cX4_dryNow 14 = .ok (.iload_n 1, 1) := by decide +kernel
theorem dX4_dryNow_15 : decode cX4_dryNow 15 = .ok (.sipush 200, 3) := by decide +kernel
theorem dX4_dryNow_18 : decode cX4_dryNow 18 = .ok (.if_icmp .gt 22, 3) := by decide +kernel
theorem dX4_dryNow_21 : decode cX4_dryNow 21 = .ok (.aload_n 0, 1) := by decide +kernel
theorem dX4_dryNow_22 : decode cX4_dryNow 22 = .ok (.invokevirtual 107, 3) := by decide +kernel
theorem dX4_dryNow_25 : decode cX4_dryNow 25 = .ok (.ifCond .ne 15, 3) := by decide +kernel
theorem dX4_dryNow_28 : decode cX4_dryNow 28 = .ok (.aload_n 0, 1) := by decide +kernel
theorem dX4_dryNow_29 : decode cX4_dryNow 29 = .ok (.iconst 0, 1) := by decide +kernel
theorem dX4_dryNow_30 : decode cX4_dryNow 30 = .ok (.invokevirtual 143, 3) := by decide +kernel
theorem dX4_dryNow_33 : decode cX4_dryNow 33 = .ok (.pop, 1) := by decide +kernel
theorem dX4_dryNow_34 : decode cX4_dryNow 34 = .ok (.iinc 1 1, 3) := by decide +kernel
theorem dX4_dryNow_37 : decode cX4_dryNow 37 = .ok (.goto (-23), 3) := by decide +kernel
theorem dX4_dryNow_40 : decode cX4_dryNow 40 = .ok (.aload_n 0, 1) := by decide +kernel
theorem dX4_dryNow_41 : decode cX4_dryNow 41 = .ok (.invokevirtual 176, 3) := by decide +kernel
theorem dX4_dryNow_44 : decode cX4_dryNow 44 = .ok (.iload_n 1, 1) := by decide +kernel
theorem dX4_dryNow_45 : decode cX4_dryNow 45 = .ok (.sipush 200, 3) := by decide +kernel
theorem dX4_dryNow_48 : decode cX4_dryNow 48 = .ok (.if_icmp .le 7, 3) := by decide +kernel
theorem dX4_dryNow_51 : decode cX4_dryNow 51 = .ok (.iconst (-1), 1) := by decide +kernel
theorem dX4_dryNow_52 : decode cX4_dryNow 52 = .ok (.goto 4, 3) := by decide +kernel
theorem dX4_dryNow_55 : decode cX4_dryNow 55 = .ok (.iload_n 1, 1) := by decide +kernel
theorem dX4_dryNow_56 : decode cX4_dryNow 56 = .ok (.ireturn, 1) := by decide +kernel
theorem dX4_dryDays_0 : decode cX4_dryDays 0 = .ok (.aload_n 0, 1) := by decide +kernel
theorem dX4_dryDays_1 : decode cX4_dryDays 1 = .ok (.iconst 0, 1) := by decide +kernel
theorem dX4_dryDays_2 : decode cX4_dryDays 2 = .ok (.putfield 25, 3) := by decide +kernel
theorem dX4_dryDays_5 : decode cX4_dryDays 5 = .ok (.aload_n 0, 1) := by decide +kernel
theorem dX4_dryDays_6 : decode cX4_dryDays 6 = .ok (.invokevirtual 182, 3) := by decide +kernel
theorem dX4_dryDays_9 : decode cX4_dryDays 9 = .ok (.ireturn, 1) := by decide +kernel
theorem dX4_bestNow_0 : decode cX4_bestNow 0 = .ok (.iconst (-1), 1) := by decide +kernel
theorem dX4_bestNow_1 : decode cX4_bestNow 1 = .ok (.istore_n 1, 1) := by decide +kernel
theorem dX4_bestNow_2 : decode cX4_bestNow 2 = .ok (.iconst 0, 1) := by decide +kernel
theorem dX4_bestNow_3 : decode cX4_bestNow 3 = .ok (.istore_n 2, 1) := by decide +kernel
theorem dX4_bestNow_4 : decode cX4_bestNow 4 = .ok (.aload_n 0, 1) := by decide +kernel
theorem dX4_bestNow_5 : decode cX4_bestNow 5 = .ok (.invokevirtual 53, 3) := by decide +kernel
theorem dX4_bestNow_8 : decode cX4_bestNow 8 = .ok (.aload_n 0, 1) := by decide +kernel
theorem dX4_bestNow_9 : decode cX4_bestNow 9 = .ok (.getfield 7, 3) := by decide +kernel
theorem dX4_bestNow_12 : decode cX4_bestNow 12 = .ok (.iconst 0, 1) := by decide +kernel
theorem dX4_bestNow_13 : decode cX4_bestNow 13 = .ok (.iaload, 1) := by decide +kernel
theorem dX4_bestNow_14 : decode cX4_bestNow 14 = .ok (.if_icmp .lt 5, 3) := by decide +kernel
theorem dX4_bestNow_17 : decode cX4_bestNow 17 = .ok (.iconst (-1), 1) := by decide +kernel
theorem dX4_bestNow_18 : decode cX4_bestNow 18 = .ok (.ireturn, 1) := by decide +kernel
theorem dX4_bestNow_19 : decode cX4_bestNow 19 = .ok (.bipush 8, 2) := by decide +kernel
theorem dX4_bestNow_21 : decode cX4_bestNow 21 = .ok (.istore_n 3, 1) := by decide +kernel
theorem dX4_bestNow_22 : decode cX4_bestNow 22 = .ok (.iload_n 3, 1) := by decide +kernel
theorem dX4_bestNow_23 : decode cX4_bestNow 23 = .ok (.aload_n 0, 1) := by decide +kernel
theorem dX4_bestNow_24 : decode cX4_bestNow 24 = .ok (.invokevirtual 84, 3) := by decide +kernel
theorem dX4_bestNow_27 : decode cX4_bestNow 27 = .ok (.if_icmp .gt 38, 3) := by decide +kernel
theorem dX4_bestNow_30 : decode cX4_bestNow 30 = .ok (.aload_n 0, 1) := by decide +kernel
theorem dX4_bestNow_31 : decode cX4_bestNow 31 = .ok (.iload_n 3, 1) := by decide +kernel
theorem dX4_bestNow_32 : decode cX4_bestNow 32 = .ok (.iconst 1, 1) := by decide +kernel
theorem dX4_bestNow_33 : decode cX4_bestNow 33 = .ok (.invokevirtual 161, 3) := by decide +kernel
theorem dX4_bestNow_36 : decode cX4_bestNow 36 = .ok (.iload_n 3, 1) := by decide +kernel
theorem dX4_bestNow_37 : decode cX4_bestNow 37 = .ok (.invokestatic 77, 3) := by decide +kernel
theorem dX4_bestNow_40 : decode cX4_bestNow 40 = .ok (.imul, 1) := by decide +kernel
theorem dX4_bestNow_41 : decode cX4_bestNow 41 = .ok (.istore 4, 2) := by decide +kernel
theorem dX4_bestNow_43 : decode cX4_bestNow 43 = .ok (.iload_n 1, 1) := by decide +kernel
theorem dX4_bestNow_44 : decode cX4_bestNow 44 = .ok (.iconst (-1), 1) := by decide +kernel
theorem dX4_bestNow_45 : decode cX4_bestNow 45 = .ok (.if_icmp .eq 9, 3) := by decide +kernel
theorem dX4_bestNow_48 : decode cX4_bestNow 48 = .ok (.iload 4, 2) := by decide +kernel
theorem dX4_bestNow_50 : decode cX4_bestNow 50 = .ok (.iload_n 2, 1) := by decide +kernel
theorem dX4_bestNow_51 : decode cX4_bestNow 51 = .ok (.if_icmp .gt 8, 3) := by decide +kernel
theorem dX4_bestNow_54 : decode cX4_bestNow 54 = .ok (.iload_n 3, 1) := by decide +kernel
end
section
theorem dX4_bestNow_55 : decode cX4_bestNow 55 = .ok (.istore_n 1, 1) := by decide +kernel
theorem dX4_bestNow_56 : decode cX4_bestNow 56 = .ok (.iload 4, 2) := by decide +kernel
theorem dX4_bestNow_58 : decode cX4_bestNow 58 = .ok (.istore_n 2, 1) := by decide +kernel
theorem dX4_bestNow_59 : decode cX4_bestNow 59 = .ok (.iinc 3 1, 3) := by decide +kernel
theorem dX4_bestNow_62 : decode cX4_bestNow 62 = .ok (.goto (-40), 3) := by decide +kernel
theorem dX4_bestNow_65 : decode cX4_bestNow 65 = .ok (.iload_n 1, 1) := by decide +kernel
theorem dX4_bestNow_66 : decode cX4_bestNow 66 = .ok (.ireturn, 1) := by decide +kernel
theorem dX4_bestLength_0 : decode cX4_bestLength 0 = .ok (.aload_n 0, 1) := by decide +kernel
theorem dX4_bestLength_1 : decode cX4_bestLength 1 = .ok (.iconst 0, 1) := by decide +kernel
theorem dX4_bestLength_2 : decode cX4_bestLength 2 = .ok (.putfield 25, 3) := by decide +kernel
theorem dX4_bestLength_5 : decode cX4_bestLength 5 = .ok (.aload_n 0, 1) := by decide +kernel
theorem dX4_bestLength_6 : decode cX4_bestLength 6 = .ok (.invokevirtual 185, 3) := by decide +kernel
theorem dX4_bestLength_9 : decode cX4_bestLength 9 = .ok (.ireturn, 1) := by decide +kernel
theorem dX4_meanNow_0 : decode cX4_meanNow 0 = .ok (.aload_n 0, 1) := by decide +kernel
theorem dX4_meanNow_1 : decode cX4_meanNow 1 = .ok (.invokevirtual 66, 3) := by decide +kernel
theorem dX4_meanNow_4 : decode cX4_meanNow 4 = .ok (.aload_n 0, 1) := by decide +kernel
theorem dX4_meanNow_5 : decode cX4_meanNow 5 = .ok (.getfield 7, 3) := by decide +kernel
theorem dX4_meanNow_8 : decode cX4_meanNow 8 = .ok (.bipush 12, 2) := by decide +kernel
theorem dX4_meanNow_10 : decode cX4_meanNow 10 = .ok (.iaload, 1) := by decide +kernel
theorem dX4_meanNow_11 : decode cX4_meanNow 11 = .ok (.iadd, 1) := by decide +kernel
theorem dX4_meanNow_12 : decode cX4_meanNow 12 = .ok (.istore_n 1, 1) := by decide +kernel
theorem dX4_meanNow_13 : decode cX4_meanNow 13 = .ok (.iload_n 1, 1) := by decide +kernel
theorem dX4_meanNow_14 : decode cX4_meanNow 14 = .ok (.ifCond .ne 7, 3) := by decide +kernel
theorem dX4_meanNow_17 : decode cX4_meanNow 17 = .ok (.dconst 0, 1) := by decide +kernel
theorem dX4_meanNow_18 : decode cX4_meanNow 18 = .ok (.goto 14, 3) := by decide +kernel
theorem dX4_meanNow_21 : decode cX4_meanNow 21 = .ok (.aload_n 0, 1) := by decide +kernel
theorem dX4_meanNow_22 : decode cX4_meanNow 22 = .ok (.getfield 7, 3) := by decide +kernel
theorem dX4_meanNow_25 : decode cX4_meanNow 25 = .ok (.bipush 13, 2) := by decide +kernel
theorem dX4_meanNow_27 : decode cX4_meanNow 27 = .ok (.iaload, 1) := by decide +kernel
theorem dX4_meanNow_28 : decode cX4_meanNow 28 = .ok (.i2d, 1) := by decide +kernel
theorem dX4_meanNow_29 : decode cX4_meanNow 29 = .ok (.iload_n 1, 1) := by decide +kernel
theorem dX4_meanNow_30 : decode cX4_meanNow 30 = .ok (.i2d, 1) := by decide +kernel
theorem dX4_meanNow_31 : decode cX4_meanNow 31 = .ok (.ddiv, 1) := by decide +kernel
theorem dX4_meanNow_32 : decode cX4_meanNow 32 = .ok (.dreturn, 1) := by decide +kernel
theorem dX4_meanPrice_0 : decode cX4_meanPrice 0 = .ok (.aload_n 0, 1) := by decide +kernel
theorem dX4_meanPrice_1 : decode cX4_meanPrice 1 = .ok (.iconst 0, 1) := by decide +kernel
theorem dX4_meanPrice_2 : decode cX4_meanPrice 2 = .ok (.putfield 25, 3) := by decide +kernel
theorem dX4_meanPrice_5 : decode cX4_meanPrice 5 = .ok (.aload_n 0, 1) := by decide +kernel
theorem dX4_meanPrice_6 : decode cX4_meanPrice 6 = .ok (.invokevirtual 188, 3) := by decide +kernel
theorem dX4_meanPrice_9 : decode cX4_meanPrice 9 = .ok (.dreturn, 1) := by decide +kernel
theorem dX4_mix_0 : decode cX4_mix 0 = .ok (.aload_n 0, 1) := by decide +kernel
theorem dX4_mix_1 : decode cX4_mix 1 = .ok (.ldc2_w 192, 3) := by decide +kernel
theorem dX4_mix_4 : decode cX4_mix 4 = .ok (.aload_n 0, 1) := by decide +kernel
theorem dX4_mix_5 : decode cX4_mix 5 = .ok (.getfield 194, 3) := by decide +kernel
theorem dX4_mix_8 : decode cX4_mix 8 = .ok (.lmul, 1) := by decide +kernel
theorem dX4_mix_9 : decode cX4_mix 9 = .ok (.lload_n 1, 1) := by decide +kernel
theorem dX4_mix_10 : decode cX4_mix 10 = .ok (.ladd, 1) := by decide +kernel
theorem dX4_mix_11 : decode cX4_mix 11 = .ok (.putfield 194, 3) := by decide +kernel
theorem dX4_mix_14 : decode cX4_mix 14 = .ok (.return_, 1) := by decide +kernel
theorem dX4_digest_0 : decode cX4_digest 0 = .ok (.aload_n 0, 1) := by decide +kernel
theorem dX4_digest_1 : decode cX4_digest 1 = .ok (.iconst 0, 1) := by decide +kernel
theorem dX4_digest_2 : decode cX4_digest 2 = .ok (.putfield 25, 3) := by decide +kernel
theorem dX4_digest_5 : decode cX4_digest 5 = .ok (.aload_n 0, 1) := by decide +kernel
theorem dX4_digest_6 : decode cX4_digest 6 = .ok (.ldc2_w 198, 3) := by decide +kernel
theorem dX4_digest_9 : decode cX4_digest 9 = .ok (.putfield 194, 3) := by decide +kernel
theorem dX4_digest_12 : decode cX4_digest 12 = .ok (.iconst 0, 1) := by decide +kernel
theorem dX4_digest_13 : decode cX4_digest 13 = .ok (.istore_n 1, 1) := by decide +kernel
theorem dX4_digest_14 : decode cX4_digest 14 = .ok (.iload_n 1, 1) := by decide +kernel
theorem dX4_digest_15 : decode cX4_digest 15 = .ok (.bipush 19, 2) := by decide +kernel
theorem dX4_digest_17 : decode cX4_digest 17 = .ok (.if_icmp .ge 19, 3) := by decide +kernel
theorem dX4_digest_20 : decode cX4_digest 20 = .ok (.aload_n 0, 1) := by decide +kernel
theorem dX4_digest_21 : decode cX4_digest 21 = .ok (.aload_n 0, 1) := by decide +kernel
theorem dX4_digest_22 : decode cX4_digest 22 = .ok (.iload_n 1, 1) := by decide +kernel
theorem dX4_digest_23 : decode cX4_digest 23 = .ok (.invokevirtual 158, 3) := by decide +kernel
theorem dX4_digest_26 : decode cX4_digest 26 = .ok (.i2l, 1) := by decide +kernel
theorem dX4_digest_27 : decode cX4_digest 27 = .ok (.invokevirtual 200, 3) := by decide +kernel
theorem dX4_digest_30 : decode cX4_digest 30 = .ok (.iinc 1 1, 3) := by decide +kernel
theorem dX4_digest_33 : decode cX4_digest 33 = .ok (.goto (-19), 3) := by decide +kernel
theorem dX4_digest_36 : decode cX4_digest 36 = .ok (.iconst 0, 1) := by decide +kernel
theorem dX4_digest_37 : decode cX4_digest 37 = .ok (.istore_n 1, 1) := by decide +kernel
theorem dX4_digest_38 : decode cX4_digest 38 = .ok (.iload_n 1, 1) := by decide +kernel
theorem dX4_digest_39 : decode cX4_digest 39 = .ok (.iconst 3, 1) := by decide +kernel
theorem dX4_digest_40 : decode cX4_digest 40 = .ok (.if_icmp .ge 22, 3) := by decide +kernel
theorem dX4_digest_43 : decode cX4_digest 43 = .ok (.aload_n 0, 1) := by decide +kernel
theorem dX4_digest_44 : decode cX4_digest 44 = .ok (.aload_n 0, 1) := by decide +kernel
theorem dX4_digest_45 : decode cX4_digest 45 = .ok (.getfield 7, 3) := by decide +kernel
theorem dX4_digest_48 : decode cX4_digest 48 = .ok (.iconst 3, 1) := by decide +kernel
theorem dX4_digest_49 : decode cX4_digest 49 = .ok (.iload_n 1, 1) := by decide +kernel
theorem dX4_digest_50 : decode cX4_digest 50 = .ok (.iadd, 1) := by decide +kernel
theorem dX4_digest_51 : decode cX4_digest 51 = .ok (.iaload, 1) := by decide +kernel
theorem dX4_digest_52 : decode cX4_digest 52 = .ok (.i2l, 1) := by decide +kernel
theorem dX4_digest_53 : decode cX4_digest 53 = .ok (.invokevirtual 200, 3) := by decide +kernel
theorem dX4_digest_56 : decode cX4_digest 56 = .ok (.iinc 1 1, 3) := by decide +kernel
theorem dX4_digest_59 : decode cX4_digest 59 = .ok (.goto (-21), 3) := by decide +kernel
theorem dX4_digest_62 : decode cX4_digest 62 = .ok (.bipush 8, 2) := by decide +kernel
theorem dX4_digest_64 : decode cX4_digest 64 = .ok (.istore_n 1, 1) := by decide +kernel
theorem dX4_digest_65 : decode cX4_digest 65 = .ok (.iload_n 1, 1) := by decide +kernel
theorem dX4_digest_66 : decode cX4_digest 66 = .ok (.bipush 24, 2) := by decide +kernel
theorem dX4_digest_68 : decode cX4_digest 68 = .ok (.if_icmp .gt 55, 3) := by decide +kernel
theorem dX4_digest_71 : decode cX4_digest 71 = .ok (.iconst 0, 1) := by decide +kernel
theorem dX4_digest_72 : decode cX4_digest 72 = .ok (.istore_n 2, 1) := by decide +kernel
theorem dX4_digest_73 : decode cX4_digest 73 = .ok (.iload_n 2, 1) := by decide +kernel
theorem dX4_digest_74 : decode cX4_digest 74 = .ok (.iconst 4, 1) := by decide +kernel
theorem dX4_digest_75 : decode cX4_digest 75 = .ok (.if_icmp .ge 20, 3) := by decide +kernel
theorem dX4_digest_78 : decode cX4_digest 78 = .ok (.aload_n 0, 1) := by decide +kernel
theorem dX4_digest_79 : decode cX4_digest 79 = .ok (.aload_n 0, 1) := by decide +kernel
theorem dX4_digest_80 : decode cX4_digest 80 = .ok (.iload_n 1, 1) := by decide +kernel
theorem dX4_digest_81 : decode cX4_digest 81 = .ok (.iload_n 2, 1) := by decide +kernel
theorem dX4_digest_82 : decode cX4_digest 82 = .ok (.invokevirtual 155, 3) := by decide +kernel
theorem dX4_digest_85 : decode cX4_digest 85 = .ok (.i2l, 1) := by decide +kernel
theorem dX4_digest_86 : decode cX4_digest 86 = .ok (.invokevirtual 200, 3) := by decide +kernel
theorem dX4_digest_89 : decode cX4_digest 89 = .ok (.iinc 2 1, 3) := by decide +kernel
theorem dX4_digest_92 : decode cX4_digest 92 = .ok (.goto (-19), 3) := by decide +kernel
theorem dX4_digest_95 : decode cX4_digest 95 = .ok (.aload_n 0, 1) := by decide +kernel
theorem dX4_digest_96 : decode cX4_digest 96 = .ok (.aload_n 0, 1) := by decide +kernel
theorem dX4_digest_97 : decode cX4_digest 97 = .ok (.iload_n 1, 1) := by decide +kernel
theorem dX4_digest_98 : decode cX4_digest 98 = .ok (.iconst 0, 1) := by decide +kernel
theorem dX4_digest_99 : decode cX4_digest 99 = .ok (.invokevirtual 161, 3) := by decide +kernel
theorem dX4_digest_102 : decode cX4_digest 102 = .ok (.i2l, 1) := by decide +kernel
theorem dX4_digest_103 : decode cX4_digest 103 = .ok (.invokevirtual 200, 3) := by decide +kernel
theorem dX4_digest_106 : decode cX4_digest 106 = .ok (.aload_n 0, 1) := by decide +kernel
theorem dX4_digest_107 : decode cX4_digest 107 = .ok (.aload_n 0, 1) := by decide +kernel
theorem dX4_digest_108 : decode cX4_digest 108 = .ok (.iload_n 1, 1) := by decide +kernel
theorem dX4_digest_109 : decode cX4_digest 109 = .ok (.iconst 1, 1) := by decide +kernel
theorem dX4_digest_110 : decode cX4_digest 110 = .ok (.invokevirtual 161, 3) := by decide +kernel
theorem dX4_digest_113 : decode cX4_digest 113 = .ok (.i2l, 1) := by decide +kernel
theorem dX4_digest_114 : decode cX4_digest 114 = .ok (.invokevirtual 200, 3) := by decide +kernel
theorem dX4_digest_117 : decode cX4_digest 117 = .ok (.iinc 1 1, 3) := by decide +kernel
theorem dX4_digest_120 : decode cX4_digest 120 = .ok (.goto (-55), 3) := by decide +kernel
theorem dX4_digest_123 : decode cX4_digest 123 = .ok (.iconst 0, 1) := by decide +kernel
theorem dX4_digest_124 : decode cX4_digest 124 = .ok (.istore_n 1, 1) := by decide +kernel
theorem dX4_digest_125 : decode cX4_digest 125 = .ok (.iload_n 1, 1) := by decide +kernel
theorem dX4_digest_126 : decode cX4_digest 126 = .ok (.aload_n 0, 1) := by decide +kernel
theorem dX4_digest_127 : decode cX4_digest 127 = .ok (.getfield 7, 3) := by decide +kernel
theorem dX4_digest_130 : decode cX4_digest 130 = .ok (.iconst 2, 1) := by decide +kernel
theorem dX4_digest_131 : decode cX4_digest 131 = .ok (.iaload, 1) := by decide +kernel
theorem dX4_digest_132 : decode cX4_digest 132 = .ok (.if_icmp .ge 69, 3) := by decide +kernel
theorem dX4_digest_135 : decode cX4_digest 135 = .ok (.iconst 0, 1) := by decide +kernel
theorem dX4_digest_136 : decode cX4_digest 136 = .ok (.istore_n 2, 1) := by decide +kernel
theorem dX4_digest_137 : decode cX4_digest 137 = .ok (.iload_n 2, 1) := by decide +kernel
theorem dX4_digest_138 : decode cX4_digest 138 = .ok (.bipush 7, 2) := by decide +kernel
theorem dX4_digest_140 : decode cX4_digest 140 = .ok (.if_icmp .ge 20, 3) := by decide +kernel
theorem dX4_digest_143 : decode cX4_digest 143 = .ok (.aload_n 0, 1) := by decide +kernel
theorem dX4_digest_144 : decode cX4_digest 144 = .ok (.aload_n 0, 1) := by decide +kernel
theorem dX4_digest_145 : decode cX4_digest 145 = .ok (.iload_n 1, 1) := by decide +kernel
theorem dX4_digest_146 : decode cX4_digest 146 = .ok (.iload_n 2, 1) := by decide +kernel
theorem dX4_digest_147 : decode cX4_digest 147 = .ok (.invokevirtual 149, 3) := by decide +kernel
theorem dX4_digest_150 : decode cX4_digest 150 = .ok (.i2l, 1) := by decide +kernel
theorem dX4_digest_151 : decode cX4_digest 151 = .ok (.invokevirtual 200, 3) := by decide +kernel
theorem dX4_digest_154 : decode cX4_digest 154 = .ok (.iinc 2 1, 3) := by decide +kernel
theorem dX4_digest_157 : decode cX4_digest 157 = .ok (.goto (-20), 3) := by decide +kernel
theorem dX4_digest_160 : decode cX4_digest 160 = .ok (.iconst 0, 1) := by decide +kernel
theorem dX4_digest_161 : decode cX4_digest 161 = .ok (.istore_n 2, 1) := by decide +kernel
theorem dX4_digest_162 : decode cX4_digest 162 = .ok (.iload_n 2, 1) := by decide +kernel
theorem dX4_digest_163 : decode cX4_digest 163 = .ok (.aload_n 0, 1) := by decide +kernel
theorem dX4_digest_164 : decode cX4_digest 164 = .ok (.iload_n 1, 1) := by decide +kernel
theorem dX4_digest_165 : decode cX4_digest 165 = .ok (.invokevirtual 36, 3) := by decide +kernel
theorem dX4_digest_168 : decode cX4_digest 168 = .ok (.if_icmp .ge 27, 3) := by decide +kernel
theorem dX4_digest_171 : decode cX4_digest 171 = .ok (.aload_n 0, 1) := by decide +kernel
theorem dX4_digest_172 : decode cX4_digest 172 = .ok (.aload_n 0, 1) := by decide +kernel
theorem dX4_digest_173 : decode cX4_digest 173 = .ok (.iload_n 1, 1) := by decide +kernel
theorem dX4_digest_174 : decode cX4_digest 174 = .ok (.iload_n 2, 1) := by decide +kernel
theorem dX4_digest_175 : decode cX4_digest 175 = .ok (.invokevirtual 40, 3) := by decide +kernel
theorem dX4_digest_178 : decode cX4_digest 178 = .ok (.ifCond .eq 7, 3) := by decide +kernel
theorem dX4_digest_181 : decode cX4_digest 181 = .ok (.lconst 1, 1) := by decide +kernel
theorem dX4_digest_182 : decode cX4_digest 182 = .ok (.goto 4, 3) := by decide +kernel
theorem dX4_digest_185 : decode cX4_digest 185 = .ok (.lconst 0, 1) := by decide +kernel
theorem dX4_digest_186 : decode cX4_digest 186 = .ok (.invokevirtual 200, 3) := by decide +kernel
theorem dX4_digest_189 : decode cX4_digest 189 = .ok (.iinc 2 1, 3) := by decide +kernel
theorem dX4_digest_192 : decode cX4_digest 192 = .ok (.goto (-30), 3) := by decide +kernel
theorem dX4_digest_195 : decode cX4_digest 195 = .ok (.iinc 1 1, 3) := by decide +kernel
theorem dX4_digest_198 : decode cX4_digest 198 = .ok (.goto (-73), 3) := by decide +kernel
theorem dX4_digest_201 : decode cX4_digest 201 = .ok (.iconst 0, 1) := by decide +kernel
theorem dX4_digest_202 : decode cX4_digest 202 = .ok (.istore_n 1, 1) := by decide +kernel
theorem dX4_digest_203 : decode cX4_digest 203 = .ok (.iload_n 1, 1) := by decide +kernel
theorem dX4_digest_204 : decode cX4_digest 204 = .ok (.iconst 4, 1) := by decide +kernel
theorem dX4_digest_205 : decode cX4_digest 205 = .ok (.if_icmp .ge 19, 3) := by decide +kernel
theorem dX4_digest_208 : decode cX4_digest 208 = .ok (.aload_n 0, 1) := by decide +kernel
theorem dX4_digest_209 : decode cX4_digest 209 = .ok (.aload_n 0, 1) := by decide +kernel
theorem dX4_digest_210 : decode cX4_digest 210 = .ok (.iload_n 1, 1) := by decide +kernel
theorem dX4_digest_211 : decode cX4_digest 211 = .ok (.invokevirtual 179, 3) := by decide +kernel
theorem dX4_digest_214 : decode cX4_digest 214 = .ok (.i2l, 1) := by decide +kernel
theorem dX4_digest_215 : decode cX4_digest 215 = .ok (.invokevirtual 200, 3) := by decide +kernel
theorem dX4_digest_218 : decode cX4_digest 218 = .ok (.iinc 1 1, 3) := by decide +kernel
theorem dX4_digest_221 : decode cX4_digest 221 = .ok (.goto (-18), 3) := by decide +kernel
theorem dX4_digest_224 : decode cX4_digest 224 = .ok (.aload_n 0, 1) := by decide +kernel
theorem dX4_digest_225 : decode cX4_digest 225 = .ok (.aload_n 0, 1) := by decide +kernel
theorem dX4_digest_226 : decode cX4_digest 226 = .ok (.invokevirtual 182, 3) := by decide +kernel
theorem dX4_digest_229 : decode cX4_digest 229 = .ok (.i2l, 1) := by decide +kernel
theorem dX4_digest_230 : decode cX4_digest 230 = .ok (.invokevirtual 200, 3) := by decide +kernel
theorem dX4_digest_233 : decode cX4_digest 233 = .ok (.aload_n 0, 1) := by decide +kernel
theorem dX4_digest_234 : decode cX4_digest 234 = .ok (.aload_n 0, 1) := by decide +kernel
theorem dX4_digest_235 : decode cX4_digest 235 = .ok (.invokevirtual 185, 3) := by decide +kernel
theorem dX4_digest_238 : decode cX4_digest 238 = .ok (.i2l, 1) := by decide +kernel
theorem dX4_digest_239 : decode cX4_digest 239 = .ok (.invokevirtual 200, 3) := by decide +kernel
theorem dX4_digest_242 : decode cX4_digest 242 = .ok (.aload_n 0, 1) := by decide +kernel
theorem dX4_digest_243 : decode cX4_digest 243 = .ok (.aload_n 0, 1) := by decide +kernel
theorem dX4_digest_244 : decode cX4_digest 244 = .ok (.invokevirtual 188, 3) := by decide +kernel
theorem dX4_digest_247 : decode cX4_digest 247 = .ok (.invokestatic 204, 3) := by decide +kernel
theorem dX4_digest_250 : decode cX4_digest 250 = .ok (.invokevirtual 200, 3) := by decide +kernel
theorem dX4_digest_253 : decode cX4_digest 253 = .ok (.aload_n 0, 1) := by decide +kernel
theorem dX4_digest_254 : decode cX4_digest 254 = .ok (.aload_n 0, 1) := by decide +kernel
theorem dX4_digest_255 : decode cX4_digest 255 = .ok (.getfield 126, 3) := by decide +kernel
theorem dX4_digest_258 : decode cX4_digest 258 = .ok (.i2l, 1) := by decide +kernel
theorem dX4_digest_259 : decode cX4_digest 259 = .ok (.invokevirtual 200, 3) := by decide +kernel
theorem dX4_digest_262 : decode cX4_digest 262 = .ok (.iconst 0, 1) := by decide +kernel
theorem dX4_digest_263 : decode cX4_digest 263 = .ok (.istore_n 1, 1) := by decide +kernel
theorem dX4_digest_264 : decode cX4_digest 264 = .ok (.iload_n 1, 1) := by decide +kernel
theorem dX4_digest_265 : decode cX4_digest 265 = .ok (.aload_n 0, 1) := by decide +kernel
theorem dX4_digest_266 : decode cX4_digest 266 = .ok (.getfield 126, 3) := by decide +kernel
theorem dX4_digest_269 : decode cX4_digest 269 = .ok (.if_icmp .ge 20, 3) := by decide +kernel
theorem dX4_digest_272 : decode cX4_digest 272 = .ok (.aload_n 0, 1) := by decide +kernel
theorem dX4_digest_273 : decode cX4_digest 273 = .ok (.aload_n 0, 1) := by decide +kernel
theorem dX4_digest_274 : decode cX4_digest 274 = .ok (.getfield 19, 3) := by decide +kernel
theorem dX4_digest_277 : decode cX4_digest 277 = .ok (.iload_n 1, 1) := by decide +kernel
theorem dX4_digest_278 : decode cX4_digest 278 = .ok (.iaload, 1) := by decide +kernel
theorem dX4_digest_279 : decode cX4_digest 279 = .ok (.i2l, 1) := by decide +kernel
theorem dX4_digest_280 : decode cX4_digest 280 = .ok (.invokevirtual 200, 3) := by decide +kernel
theorem dX4_digest_283 : decode cX4_digest 283 = .ok (.iinc 1 1, 3) := by decide +kernel
theorem dX4_digest_286 : decode cX4_digest 286 = .ok (.goto (-22), 3) := by decide +kernel
theorem dX4_digest_289 : decode cX4_digest 289 = .ok (.aload_n 0, 1) := by decide +kernel
theorem dX4_digest_290 : decode cX4_digest 290 = .ok (.getfield 194, 3) := by decide +kernel
theorem dX4_digest_293 : decode cX4_digest 293 = .ok (.lreturn, 1) := by decide +kernel
theorem dJxe99ae_isNaN_b9ae7_0 : decode cJxe99ae_isNaN_b9ae7 0 = .ok (.dload_n 0, 1) := by decide +kernel
theorem dJxe99ae_isNaN_b9ae7_1 : decode cJxe99ae_isNaN_b9ae7 1 = .ok (.dload_n 0, 1) := by decide +kernel
theorem dJxe99ae_isNaN_b9ae7_2 : decode cJxe99ae_isNaN_b9ae7 2 = .ok (.dcmp .l, 1) := by decide +kernel
theorem dJxe99ae_isNaN_b9ae7_3 : decode cJxe99ae_isNaN_b9ae7 3 = .ok (.ifCond .eq 7, 3) := by decide +kernel
theorem dJxe99ae_isNaN_b9ae7_6 : decode cJxe99ae_isNaN_b9ae7 6 = .ok (.iconst 1, 1) := by decide +kernel
theorem dJxe99ae_isNaN_b9ae7_7 : decode cJxe99ae_isNaN_b9ae7 7 = .ok (.goto 4, 3) := by decide +kernel
theorem dJxe99ae_isNaN_b9ae7_10 : decode cJxe99ae_isNaN_b9ae7 10 = .ok (.iconst 0, 1) := by decide +kernel
theorem dJxe99ae_isNaN_b9ae7_11 : decode cJxe99ae_isNaN_b9ae7 11 = .ok (.ireturn, 1) := by decide +kernel
theorem dJxe99ae_doubleToLongBits_ccdee_0 : decode cJxe99ae_doubleToLongBits_ccdee 0 = .ok (.dload_n 0, 1) := by decide +kernel
theorem dJxe99ae_doubleToLongBits_ccdee_1 : decode cJxe99ae_doubleToLongBits_ccdee 1 = .ok (.invokestatic 122, 3) := by decide +kernel
theorem dJxe99ae_doubleToLongBits_ccdee_4 : decode cJxe99ae_doubleToLongBits_ccdee 4 = .ok (.ifCond .ne 8, 3) := by decide +kernel
theorem dJxe99ae_doubleToLongBits_ccdee_7 : decode cJxe99ae_doubleToLongBits_ccdee 7 = .ok (.dload_n 0, 1) := by decide +kernel
theorem dJxe99ae_doubleToLongBits_ccdee_8 : decode cJxe99ae_doubleToLongBits_ccdee 8 = .ok (.invokestatic 134, 3) := by decide +kernel
theorem dJxe99ae_doubleToLongBits_ccdee_11 : decode cJxe99ae_doubleToLongBits_ccdee 11 = .ok (.lreturn, 1) := by decide +kernel
theorem dJxe99ae_doubleToLongBits_ccdee_12 : decode cJxe99ae_doubleToLongBits_ccdee 12 = .ok (.ldc2_w 137, 3) := by decide +kernel
theorem dJxe99ae_doubleToLongBits_ccdee_15 : decode cJxe99ae_doubleToLongBits_ccdee 15 = .ok (.lreturn, 1) := by decide +kernel
theorem dJ6_bitCount_0f7a4_0 : decode cJ6_bitCount_0f7a4 0 = .ok (.iload_n 0, 1) := by decide +kernel
theorem dJ6_bitCount_0f7a4_1 : decode cJ6_bitCount_0f7a4 1 = .ok (.iload_n 0, 1) := by decide +kernel
theorem dJ6_bitCount_0f7a4_2 : decode cJ6_bitCount_0f7a4 2 = .ok (.iconst 1, 1) := by decide +kernel
theorem dJ6_bitCount_0f7a4_3 : decode cJ6_bitCount_0f7a4 3 = .ok (.iushr, 1) := by decide +kernel
theorem dJ6_bitCount_0f7a4_4 : decode cJ6_bitCount_0f7a4 4 = .ok (.ldc_w 265, 3) := by decide +kernel
theorem dJ6_bitCount_0f7a4_7 : decode cJ6_bitCount_0f7a4 7 = .ok (.iand, 1) := by decide +kernel
theorem dJ6_bitCount_0f7a4_8 : decode cJ6_bitCount_0f7a4 8 = .ok (.isub, 1) := by decide +kernel
theorem dJ6_bitCount_0f7a4_9 : decode cJ6_bitCount_0f7a4 9 = .ok (.istore_n 0, 1) := by decide +kernel
theorem dJ6_bitCount_0f7a4_10 : decode cJ6_bitCount_0f7a4 10 = .ok (.iload_n 0, 1) := by decide +kernel
theorem dJ6_bitCount_0f7a4_11 : decode cJ6_bitCount_0f7a4 11 = .ok (.ldc_w 266, 3) := by decide +kernel
theorem dJ6_bitCount_0f7a4_14 : decode cJ6_bitCount_0f7a4 14 = .ok (.iand, 1) := by decide +kernel
theorem dJ6_bitCount_0f7a4_15 : decode cJ6_bitCount_0f7a4 15 = .ok (.iload_n 0, 1) := by decide +kernel
theorem dJ6_bitCount_0f7a4_16 : decode cJ6_bitCount_0f7a4 16 = .ok (.iconst 2, 1) := by decide +kernel
theorem dJ6_bitCount_0f7a4_17 : decode cJ6_bitCount_0f7a4 17 = .ok (.iushr, 1) := by decide +kernel
theorem dJ6_bitCount_0f7a4_18 : decode cJ6_bitCount_0f7a4 18 = .ok (.ldc_w 266, 3) := by decide +kernel
theorem dJ6_bitCount_0f7a4_21 : decode cJ6_bitCount_0f7a4 21 = .ok (.iand, 1) := by decide +kernel
theorem dJ6_bitCount_0f7a4_22 : decode cJ6_bitCount_0f7a4 22 = .ok (.iadd, 1) := by decide +kernel
theorem dJ6_bitCount_0f7a4_23 : decode cJ6_bitCount_0f7a4 23 = .ok (.istore_n 0, 1) := by decide +kernel
theorem dJ6_bitCount_0f7a4_24 : decode cJ6_bitCount_0f7a4 24 = .ok (.iload_n 0, 1) := by decide +kernel
theorem dJ6_bitCount_0f7a4_25 : decode cJ6_bitCount_0f7a4 25 = .ok (.iload_n 0, 1) := by decide +kernel
theorem dJ6_bitCount_0f7a4_26 : decode cJ6_bitCount_0f7a4 26 = .ok (.iconst 4, 1) := by decide +kernel
theorem dJ6_bitCount_0f7a4_27 : decode cJ6_bitCount_0f7a4 27 = .ok (.iushr, 1) := by decide +kernel
theorem dJ6_bitCount_0f7a4_28 : decode cJ6_bitCount_0f7a4 28 = .ok (.iadd, 1) := by decide +kernel
theorem dJ6_bitCount_0f7a4_29 : decode cJ6_bitCount_0f7a4 29 = .ok (.ldc_w 267, 3) := by decide +kernel
theorem dJ6_bitCount_0f7a4_32 : decode cJ6_bitCount_0f7a4 32 = .ok (.iand, 1) := by decide +kernel
theorem dJ6_bitCount_0f7a4_33 : decode cJ6_bitCount_0f7a4 33 = .ok (.istore_n 0, 1) := by decide +kernel
theorem dJ6_bitCount_0f7a4_34 : decode cJ6_bitCount_0f7a4 34 = .ok (.iload_n 0, 1) := by decide +kernel
theorem dJ6_bitCount_0f7a4_35 : decode cJ6_bitCount_0f7a4 35 = .ok (.iload_n 0, 1) := by decide +kernel
theorem dJ6_bitCount_0f7a4_36 : decode cJ6_bitCount_0f7a4 36 = .ok (.bipush 8, 2) := by decide +kernel
theorem dJ6_bitCount_0f7a4_38 : decode cJ6_bitCount_0f7a4 38 = .ok (.iushr, 1) := by decide +kernel
theorem dJ6_bitCount_0f7a4_39 : decode cJ6_bitCount_0f7a4 39 = .ok (.iadd, 1) := by decide +kernel
theorem dJ6_bitCount_0f7a4_40 : decode cJ6_bitCount_0f7a4 40 = .ok (.istore_n 0, 1) := by decide +kernel
theorem dJ6_bitCount_0f7a4_41 : decode cJ6_bitCount_0f7a4 41 = .ok (.iload_n 0, 1) := by decide +kernel
theorem dJ6_bitCount_0f7a4_42 : decode cJ6_bitCount_0f7a4 42 = .ok (.iload_n 0, 1) := by decide +kernel
theorem dJ6_bitCount_0f7a4_43 : decode cJ6_bitCount_0f7a4 43 = .ok (.bipush 16, 2) := by decide +kernel
theorem dJ6_bitCount_0f7a4_45 : decode cJ6_bitCount_0f7a4 45 = .ok (.iushr, 1) := by decide +kernel
theorem dJ6_bitCount_0f7a4_46 : decode cJ6_bitCount_0f7a4 46 = .ok (.iadd, 1) := by decide +kernel
theorem dJ6_bitCount_0f7a4_47 : decode cJ6_bitCount_0f7a4 47 = .ok (.istore_n 0, 1) := by decide +kernel
theorem dJ6_bitCount_0f7a4_48 : decode cJ6_bitCount_0f7a4 48 = .ok (.iload_n 0, 1) := by decide +kernel
theorem dJ6_bitCount_0f7a4_49 : decode cJ6_bitCount_0f7a4 49 = .ok (.bipush 63, 2) := by decide +kernel
theorem dJ6_bitCount_0f7a4_51 : decode cJ6_bitCount_0f7a4 51 = .ok (.iand, 1) := by decide +kernel
theorem dJ6_bitCount_0f7a4_52 : decode cJ6_bitCount_0f7a4 52 = .ok (.ireturn, 1) := by decide +kernel
theorem dJ9_max_7cf53_0 : decode cJ9_max_7cf53 0 = .ok (.iload_n 0, 1) := by decide +kernel
theorem dJ9_max_7cf53_1 : decode cJ9_max_7cf53 1 = .ok (.iload_n 1, 1) := by decide +kernel
theorem dJ9_max_7cf53_2 : decode cJ9_max_7cf53 2 = .ok (.if_icmp .lt 7, 3) := by decide +kernel
theorem dJ9_max_7cf53_5 : decode cJ9_max_7cf53 5 = .ok (.iload_n 0, 1) := by decide +kernel
theorem dJ9_max_7cf53_6 : decode cJ9_max_7cf53 6 = .ok (.goto 4, 3) := by decide +kernel
theorem dJ9_max_7cf53_9 : decode cJ9_max_7cf53 9 = .ok (.iload_n 1, 1) := by decide +kernel
theorem dJ9_max_7cf53_10 : decode cJ9_max_7cf53 10 = .ok (.ireturn, 1) := by decide +kernel
theorem dJ9_min_7cf53_0 : decode cJ9_min_7cf53 0 = .ok (.iload_n 0, 1) := by decide +kernel
theorem dJ9_min_7cf53_1 : decode cJ9_min_7cf53 1 = .ok (.iload_n 1, 1) := by decide +kernel
theorem dJ9_min_7cf53_2 : decode cJ9_min_7cf53 2 = .ok (.if_icmp .gt 7, 3) := by decide +kernel
theorem dJ9_min_7cf53_5 : decode cJ9_min_7cf53 5 = .ok (.iload_n 0, 1) := by decide +kernel
theorem dJ9_min_7cf53_6 : decode cJ9_min_7cf53 6 = .ok (.goto 4, 3) := by decide +kernel
theorem dJ9_min_7cf53_9 : decode cJ9_min_7cf53 9 = .ok (.iload_n 1, 1) := by decide +kernel
theorem dJ9_min_7cf53_10 : decode cJ9_min_7cf53 10 = .ok (.ireturn, 1) := by decide +kernel
theorem dL_begin_0 : decode cL_begin 0 = .ok (.aload_n 3, 1) := by decide +kernel
theorem dL_begin_1 : decode cL_begin 1 = .ok (.iconst 0, 1) := by decide +kernel
theorem dL_begin_2 : decode cL_begin 2 = .ok (.aload_n 0, 1) := by decide +kernel
theorem dL_begin_3 : decode cL_begin 3 = .ok (.iload_n 1, 1) := by decide +kernel
theorem dL_begin_4 : decode cL_begin 4 = .ok (.iload_n 2, 1) := by decide +kernel
theorem dL_begin_5 : decode cL_begin 5 = .ok (.invokevirtual 7, 3) := by decide +kernel
theorem dL_begin_8 : decode cL_begin 8 = .ok (.i2l, 1) := by decide +kernel
theorem dL_begin_9 : decode cL_begin 9 = .ok (.lastore, 1) := by decide +kernel
theorem dL_begin_10 : decode cL_begin 10 = .ok (.goto 7, 3) := by decide +kernel
theorem dL_begin_13 : decode cL_begin 13 = .ok (.astore 4, 2) := by decide +kernel
theorem dL_begin_15 : decode cL_begin 15 = .ok (.iconst 1, 1) := by decide +kernel
theorem dL_begin_16 : decode cL_begin 16 = .ok (.ireturn, 1) := by decide +kernel
theorem dL_begin_17 : decode cL_begin 17 = .ok (.iconst 0, 1) := by decide +kernel
theorem dL_begin_18 : decode cL_begin 18 = .ok (.ireturn, 1) := by decide +kernel
theorem dL_set_0 : decode cL_set 0 = .ok (.aload_n 3, 1) := by decide +kernel
theorem dL_set_1 : decode cL_set 1 = .ok (.iconst 0, 1) := by decide +kernel
theorem dL_set_2 : decode cL_set 2 = .ok (.aload_n 0, 1) := by decide +kernel
theorem dL_set_3 : decode cL_set 3 = .ok (.iload_n 1, 1) := by decide +kernel
theorem dL_set_4 : decode cL_set 4 = .ok (.iload_n 2, 1) := by decide +kernel
theorem dL_set_5 : decode cL_set 5 = .ok (.invokevirtual 15, 3) := by decide +kernel
theorem dL_set_8 : decode cL_set 8 = .ok (.i2l, 1) := by decide +kernel
theorem dL_set_9 : decode cL_set 9 = .ok (.lastore, 1) := by decide +kernel
theorem dL_set_10 : decode cL_set 10 = .ok (.goto 11, 3) := by decide +kernel
theorem dL_set_13 : decode cL_set 13 = .ok (.astore 4, 2) := by decide +kernel
theorem dL_set_15 : decode cL_set 15 = .ok (.iconst 1, 1) := by decide +kernel
theorem dL_set_16 : decode cL_set 16 = .ok (.ireturn, 1) := by decide +kernel
theorem dL_set_17 : decode cL_set 17 = .ok (.astore 4, 2) := by decide +kernel
theorem dL_set_19 : decode cL_set 19 = .ok (.iconst 2, 1) := by decide +kernel
theorem dL_set_20 : decode cL_set 20 = .ok (.ireturn, 1) := by decide +kernel
theorem dL_set_21 : decode cL_set 21 = .ok (.iconst 0, 1) := by decide +kernel
theorem dL_set_22 : decode cL_set 22 = .ok (.ireturn, 1) := by decide +kernel
theorem dL_buy_0 : decode cL_buy 0 = .ok (.aload 4, 2) := by decide +kernel
theorem dL_buy_2 : decode cL_buy 2 = .ok (.iconst 0, 1) := by decide +kernel
theorem dL_buy_3 : decode cL_buy 3 = .ok (.aload_n 0, 1) := by decide +kernel
theorem dL_buy_4 : decode cL_buy 4 = .ok (.iload_n 1, 1) := by decide +kernel
theorem dL_buy_5 : decode cL_buy 5 = .ok (.iload_n 2, 1) := by decide +kernel
theorem dL_buy_6 : decode cL_buy 6 = .ok (.iload_n 3, 1) := by decide +kernel
theorem dL_buy_7 : decode cL_buy 7 = .ok (.invokevirtual 20, 3) := by decide +kernel
theorem dL_buy_10 : decode cL_buy 10 = .ok (.i2l, 1) := by decide +kernel
theorem dL_buy_11 : decode cL_buy 11 = .ok (.lastore, 1) := by decide +kernel
theorem dL_buy_12 : decode cL_buy 12 = .ok (.goto 11, 3) := by decide +kernel
theorem dL_buy_15 : decode cL_buy 15 = .ok (.astore 5, 2) := by decide +kernel
theorem dL_buy_17 : decode cL_buy 17 = .ok (.iconst 1, 1) := by decide +kernel
theorem dL_buy_18 : decode cL_buy 18 = .ok (.ireturn, 1) := by decide +kernel
theorem dL_buy_19 : decode cL_buy 19 = .ok (.astore 5, 2) := by decide +kernel
theorem dL_buy_21 : decode cL_buy 21 = .ok (.iconst 2, 1) := by decide +kernel
theorem dL_buy_22 : decode cL_buy 22 = .ok (.ireturn, 1) := by decide +kernel
theorem dL_buy_23 : decode cL_buy 23 = .ok (.iconst 0, 1) := by decide +kernel
theorem dL_buy_24 : decode cL_buy 24 = .ok (.ireturn, 1) := by decide +kernel
theorem dL_recut_0 : decode cL_recut 0 = .ok (.aload 4, 2) := by decide +kernel
theorem dL_recut_2 : decode cL_recut 2 = .ok (.iconst 0, 1) := by decide +kernel
theorem dL_recut_3 : decode cL_recut 3 = .ok (.aload_n 0, 1) := by decide +kernel
theorem dL_recut_4 : decode cL_recut 4 = .ok (.iload_n 1, 1) := by decide +kernel
theorem dL_recut_5 : decode cL_recut 5 = .ok (.iload_n 2, 1) := by decide +kernel
theorem dL_recut_6 : decode cL_recut 6 = .ok (.iload_n 3, 1) := by decide +kernel
theorem dL_recut_7 : decode cL_recut 7 = .ok (.invokevirtual 26, 3) := by decide +kernel
theorem dL_recut_10 : decode cL_recut 10 = .ok (.i2l, 1) := by decide +kernel
theorem dL_recut_11 : decode cL_recut 11 = .ok (.lastore, 1) := by decide +kernel
theorem dL_recut_12 : decode cL_recut 12 = .ok (.goto 11, 3) := by decide +kernel
theorem dL_recut_15 : decode cL_recut 15 = .ok (.astore 5, 2) := by decide +kernel
theorem dL_recut_17 : decode cL_recut 17 = .ok (.iconst 1, 1) := by decide +kernel
theorem dL_recut_18 : decode cL_recut 18 = .ok (.ireturn, 1) := by decide +kernel
theorem dL_recut_19 : decode cL_recut 19 = .ok (.astore 5, 2) := by decide +kernel
theorem dL_recut_21 : decode cL_recut 21 = .ok (.iconst 2, 1) := by decide +kernel
theorem dL_recut_22 : decode cL_recut 22 = .ok (.ireturn, 1) := by decide +kernel
theorem dL_recut_23 : decode cL_recut 23 = .ok (.iconst 0, 1) := by decide +kernel
theorem dL_recut_24 : decode cL_recut 24 = .ok (.ireturn, 1) := by decide +kernel
theorem dL_clearHeap_0 : decode cL_clearHeap 0 = .ok (.aload_n 2, 1) := by decide +kernel
theorem dL_clearHeap_1 : decode cL_clearHeap 1 = .ok (.iconst 0, 1) := by decide +kernel
theorem dL_clearHeap_2 : decode cL_clearHeap 2 = .ok (.aload_n 0, 1) := by decide +kernel
theorem dL_clearHeap_3 : decode cL_clearHeap 3 = .ok (.iload_n 1, 1) := by decide +kernel
theorem dL_clearHeap_4 : decode cL_clearHeap 4 = .ok (.invokevirtual 29, 3) := by decide +kernel
theorem dL_clearHeap_7 : decode cL_clearHeap 7 = .ok (.i2l, 1) := by decide +kernel
theorem dL_clearHeap_8 : decode cL_clearHeap 8 = .ok (.lastore, 1) := by decide +kernel
theorem dL_clearHeap_9 : decode cL_clearHeap 9 = .ok (.goto 6, 3) := by decide +kernel
theorem dL_clearHeap_12 : decode cL_clearHeap 12 = .ok (.astore_n 3, 1) := by decide +kernel
theorem dL_clearHeap_13 : decode cL_clearHeap 13 = .ok (.iconst 1, 1) := by decide +kernel
theorem dL_clearHeap_14 : decode cL_clearHeap 14 = .ok (.ireturn, 1) := by decide +kernel
theorem dL_clearHeap_15 : decode cL_clearHeap 15 = .ok (.iconst 0, 1) := by decide +kernel
theorem dL_clearHeap_16 : decode cL_clearHeap 16 = .ok (.ireturn, 1) := by decide +kernel
theorem dL_course_0 : decode cL_course 0 = .ok (.aload_n 2, 1) := by decide +kernel
theorem dL_course_1 : decode cL_course 1 = .ok (.iconst 0, 1) := by decide +kernel
theorem dL_course_2 : decode cL_course 2 = .ok (.aload_n 0, 1) := by decide +kernel
theorem dL_course_3 : decode cL_course 3 = .ok (.iload_n 1, 1) := by decide +kernel
theorem dL_course_4 : decode cL_course 4 = .ok (.invokevirtual 33, 3) := by decide +kernel
theorem dL_course_7 : decode cL_course 7 = .ok (.i2l, 1) := by decide +kernel
theorem dL_course_8 : decode cL_course 8 = .ok (.lastore, 1) := by decide +kernel
theorem dL_course_9 : decode cL_course 9 = .ok (.goto 9, 3) := by decide +kernel
theorem dL_course_12 : decode cL_course 12 = .ok (.astore_n 3, 1) := by decide +kernel
theorem dL_course_13 : decode cL_course 13 = .ok (.iconst 1, 1) := by decide +kernel
theorem dL_course_14 : decode cL_course 14 = .ok (.ireturn, 1) := by decide +kernel
theorem dL_course_15 : decode cL_course 15 = .ok (.astore_n 3, 1) := by decide +kernel
theorem dL_course_16 : decode cL_course 16 = .ok (.iconst 2, 1) := by decide +kernel
theorem dL_course_17 : decode cL_course 17 = .ok (.ireturn, 1) := by decide +kernel
theorem dL_course_18 : decode cL_course 18 = .ok (.iconst 0, 1) := by decide +kernel
theorem dL_course_19 : decode cL_course 19 = .ok (.ireturn, 1) := by decide +kernel
theorem dL_lay_0 : decode cL_lay 0 = .ok (.aload_n 2, 1) := by decide +kernel
theorem dL_lay_1 : decode cL_lay 1 = .ok (.iconst 0, 1) := by decide +kernel
theorem dL_lay_2 : decode cL_lay 2 = .ok (.aload_n 0, 1) := by decide +kernel
theorem dL_lay_3 : decode cL_lay 3 = .ok (.iload_n 1, 1) := by decide +kernel
theorem dL_lay_4 : decode cL_lay 4 = .ok (.invokevirtual 36, 3) := by decide +kernel
theorem dL_lay_7 : decode cL_lay 7 = .ok (.i2l, 1) := by decide +kernel
theorem dL_lay_8 : decode cL_lay 8 = .ok (.lastore, 1) := by decide +kernel
theorem dL_lay_9 : decode cL_lay 9 = .ok (.goto 9, 3) := by decide +kernel
theorem dL_lay_12 : decode cL_lay 12 = .ok (.astore_n 3, 1) := by decide +kernel
theorem dL_lay_13 : decode cL_lay 13 = .ok (.iconst 1, 1) := by decide +kernel
theorem dL_lay_14 : decode cL_lay 14 = .ok (.ireturn, 1) := by decide +kernel
theorem dL_lay_15 : decode cL_lay 15 = .ok (.astore_n 3, 1) := by decide +kernel
theorem dL_lay_16 : decode cL_lay 16 = .ok (.iconst 2, 1) := by decide +kernel
theorem dL_lay_17 : decode cL_lay 17 = .ok (.ireturn, 1) := by decide +kernel
theorem dL_lay_18 : decode cL_lay 18 = .ok (.iconst 0, 1) := by decide +kernel
theorem dL_lay_19 : decode cL_lay 19 = .ok (.ireturn, 1) := by decide +kernel
theorem dL_mend_0 : decode cL_mend 0 = .ok (.aload_n 3, 1) := by decide +kernel
theorem dL_mend_1 : decode cL_mend 1 = .ok (.iconst 0, 1) := by decide +kernel
theorem dL_mend_2 : decode cL_mend 2 = .ok (.aload_n 0, 1) := by decide +kernel
theorem dL_mend_3 : decode cL_mend 3 = .ok (.iload_n 1, 1) := by decide +kernel
theorem dL_mend_4 : decode cL_mend 4 = .ok (.iload_n 2, 1) := by decide +kernel
theorem dL_mend_5 : decode cL_mend 5 = .ok (.invokevirtual 39, 3) := by decide +kernel
theorem dL_mend_8 : decode cL_mend 8 = .ok (.i2l, 1) := by decide +kernel
theorem dL_mend_9 : decode cL_mend 9 = .ok (.lastore, 1) := by decide +kernel
theorem dL_mend_10 : decode cL_mend 10 = .ok (.goto 11, 3) := by decide +kernel
theorem dL_mend_13 : decode cL_mend 13 = .ok (.astore 4, 2) := by decide +kernel
theorem dL_mend_15 : decode cL_mend 15 = .ok (.iconst 1, 1) := by decide +kernel
theorem dL_mend_16 : decode cL_mend 16 = .ok (.ireturn, 1) := by decide +kernel
theorem dL_mend_17 : decode cL_mend 17 = .ok (.astore 4, 2) := by decide +kernel
theorem dL_mend_19 : decode cL_mend 19 = .ok (.iconst 2, 1) := by decide +kernel
theorem dL_mend_20 : decode cL_mend 20 = .ok (.ireturn, 1) := by decide +kernel
theorem dL_mend_21 : decode cL_mend 21 = .ok (.iconst 0, 1) := by decide +kernel
theorem dL_mend_22 : decode cL_mend 22 = .ok (.ireturn, 1) := by decide +kernel
theorem dL_pass_0 : decode cL_pass 0 = .ok (.aload_n 2, 1) := by decide +kernel
theorem dL_pass_1 : decode cL_pass 1 = .ok (.iconst 0, 1) := by decide +kernel
theorem dL_pass_2 : decode cL_pass 2 = .ok (.aload_n 0, 1) := by decide +kernel
theorem dL_pass_3 : decode cL_pass 3 = .ok (.iload_n 1, 1) := by decide +kernel
theorem dL_pass_4 : decode cL_pass 4 = .ok (.invokevirtual 42, 3) := by decide +kernel
theorem dL_pass_7 : decode cL_pass 7 = .ok (.i2l, 1) := by decide +kernel
theorem dL_pass_8 : decode cL_pass 8 = .ok (.lastore, 1) := by decide +kernel
theorem dL_pass_9 : decode cL_pass 9 = .ok (.goto 9, 3) := by decide +kernel
theorem dL_pass_12 : decode cL_pass 12 = .ok (.astore_n 3, 1) := by decide +kernel
theorem dL_pass_13 : decode cL_pass 13 = .ok (.iconst 1, 1) := by decide +kernel
theorem dL_pass_14 : decode cL_pass 14 = .ok (.ireturn, 1) := by decide +kernel
theorem dL_pass_15 : decode cL_pass 15 = .ok (.astore_n 3, 1) := by decide +kernel
theorem dL_pass_16 : decode cL_pass 16 = .ok (.iconst 2, 1) := by decide +kernel
theorem dL_pass_17 : decode cL_pass 17 = .ok (.ireturn, 1) := by decide +kernel
theorem dL_pass_18 : decode cL_pass 18 = .ok (.iconst 0, 1) := by decide +kernel
theorem dL_pass_19 : decode cL_pass 19 = .ok (.ireturn, 1) := by decide +kernel
theorem dL_append_0 : decode cL_append 0 = .ok (.aload_n 2, 1) := by decide +kernel
theorem dL_append_1 : decode cL_append 1 = .ok (.iconst 0, 1) := by decide +kernel
theorem dL_append_2 : decode cL_append 2 = .ok (.aload_n 0, 1) := by decide +kernel
theorem dL_append_3 : decode cL_append 3 = .ok (.iload_n 1, 1) := by decide +kernel
theorem dL_append_4 : decode cL_append 4 = .ok (.invokevirtual 45, 3) := by decide +kernel
theorem dL_append_7 : decode cL_append 7 = .ok (.i2l, 1) := by decide +kernel
theorem dL_append_8 : decode cL_append 8 = .ok (.lastore, 1) := by decide +kernel
theorem dL_append_9 : decode cL_append 9 = .ok (.goto 9, 3) := by decide +kernel
theorem dL_append_12 : decode cL_append 12 = .ok (.astore_n 3, 1) := by decide +kernel
theorem dL_append_13 : decode cL_append 13 = .ok (.iconst 1, 1) := by decide +kernel
theorem dL_append_14 : decode cL_append 14 = .ok (.ireturn, 1) := by decide +kernel
theorem dL_append_15 : decode cL_append 15 = .ok (.astore_n 3, 1) := by decide +kernel
theorem dL_append_16 : decode cL_append 16 = .ok (.iconst 2, 1) := by decide +kernel
theorem dL_append_17 : decode cL_append 17 = .ok (.ireturn, 1) := by decide +kernel
theorem dL_append_18 : decode cL_append 18 = .ok (.iconst 0, 1) := by decide +kernel
theorem dL_append_19 : decode cL_append 19 = .ok (.ireturn, 1) := by decide +kernel
theorem dL_work_0 : decode cL_work 0 = .ok (.aload_n 1, 1) := by decide +kernel
theorem dL_work_1 : decode cL_work 1 = .ok (.iconst 0, 1) := by decide +kernel
theorem dL_work_2 : decode cL_work 2 = .ok (.aload_n 0, 1) := by decide +kernel
theorem dL_work_3 : decode cL_work 3 = .ok (.invokevirtual 48, 3) := by decide +kernel
theorem dL_work_6 : decode cL_work 6 = .ok (.i2l, 1) := by decide +kernel
theorem dL_work_7 : decode cL_work 7 = .ok (.lastore, 1) := by decide +kernel
theorem dL_work_8 : decode cL_work 8 = .ok (.goto 9, 3) := by decide +kernel
theorem dL_work_11 : decode cL_work 11 = .ok (.astore_n 2, 1) := by decide +kernel
theorem dL_work_12 : decode cL_work 12 = .ok (.iconst 1, 1) := by decide +kernel
theorem dL_work_13 : decode cL_work 13 = .ok (.ireturn, 1) := by decide +kernel
theorem dL_work_14 : decode cL_work 14 = .ok (.astore_n 2, 1) := by decide +kernel
theorem dL_work_15 : decode cL_work 15 = .ok (.iconst 2, 1) := by decide +kernel
theorem dL_work_16 : decode cL_work 16 = .ok (.ireturn, 1) := by decide +kernel
theorem dL_work_17 : decode cL_work 17 = .ok (.iconst 0, 1) := by decide +kernel
theorem dL_work_18 : decode cL_work 18 = .ok (.ireturn, 1) := by decide +kernel
theorem dL_undo_0 : decode cL_undo 0 = .ok (.aload_n 1, 1) := by decide +kernel
theorem dL_undo_1 : decode cL_undo 1 = .ok (.iconst 0, 1) := by decide +kernel
theorem dL_undo_2 : decode cL_undo 2 = .ok (.aload_n 0, 1) := by decide +kernel
theorem dL_undo_3 : decode cL_undo 3 = .ok (.invokevirtual 52, 3) := by decide +kernel
theorem dL_undo_6 : decode cL_undo 6 = .ok (.i2l, 1) := by decide +kernel
theorem dL_undo_7 : decode cL_undo 7 = .ok (.lastore, 1) := by decide +kernel
theorem dL_undo_8 : decode cL_undo 8 = .ok (.goto 6, 3) := by decide +kernel
theorem dL_undo_11 : decode cL_undo 11 = .ok (.astore_n 2, 1) := by decide +kernel
theorem dL_undo_12 : decode cL_undo 12 = .ok (.iconst 1, 1) := by decide +kernel
theorem dL_undo_13 : decode cL_undo 13 = .ok (.ireturn, 1) := by decide +kernel
theorem dL_undo_14 : decode cL_undo 14 = .ok (.iconst 0, 1) := by decide +kernel
theorem dL_undo_15 : decode cL_undo 15 = .ok (.ireturn, 1) := by decide +kernel
theorem dL_courseOf_0 : decode cL_courseOf 0 = .ok (.aload_n 3, 1) := by decide +kernel
theorem dL_courseOf_1 : decode cL_courseOf 1 = .ok (.iconst 0, 1) := by decide +kernel
theorem dL_courseOf_2 : decode cL_courseOf 2 = .ok (.aload_n 0, 1) := by decide +kernel
theorem dL_courseOf_3 : decode cL_courseOf 3 = .ok (.iload_n 1, 1) := by decide +kernel
theorem dL_courseOf_4 : decode cL_courseOf 4 = .ok (.iload_n 2, 1) := by decide +kernel
theorem dL_courseOf_5 : decode cL_courseOf 5 = .ok (.invokevirtual 55, 3) := by decide +kernel
theorem dL_courseOf_8 : decode cL_courseOf 8 = .ok (.i2l, 1) := by decide +kernel
theorem dL_courseOf_9 : decode cL_courseOf 9 = .ok (.lastore, 1) := by decide +kernel
theorem dL_courseOf_10 : decode cL_courseOf 10 = .ok (.goto 11, 3) := by decide +kernel
theorem dL_courseOf_13 : decode cL_courseOf 13 = .ok (.astore 4, 2) := by decide +kernel
theorem dL_courseOf_15 : decode cL_courseOf 15 = .ok (.iconst 1, 1) := by decide +kernel
theorem dL_courseOf_16 : decode cL_courseOf 16 = .ok (.ireturn, 1) := by decide +kernel
theorem dL_courseOf_17 : decode cL_courseOf 17 = .ok (.astore 4, 2) := by decide +kernel
theorem dL_courseOf_19 : decode cL_courseOf 19 = .ok (.iconst 2, 1) := by decide +kernel
theorem dL_courseOf_20 : decode cL_courseOf 20 = .ok (.ireturn, 1) := by decide +kernel
theorem dL_courseOf_21 : decode cL_courseOf 21 = .ok (.iconst 0, 1) := by decide +kernel
theorem dL_courseOf_22 : decode cL_courseOf 22 = .ok (.ireturn, 1) := by decide +kernel
theorem dL_lies_0 : decode cL_lies 0 = .ok (.aload_n 3, 1) := by decide +kernel
theorem dL_lies_1 : decode cL_lies 1 = .ok (.iconst 0, 1) := by decide +kernel
theorem dL_lies_2 : decode cL_lies 2 = .ok (.aload_n 0, 1) := by decide +kernel
theorem dL_lies_3 : decode cL_lies 3 = .ok (.iload_n 1, 1) := by decide +kernel
theorem dL_lies_4 : decode cL_lies 4 = .ok (.iload_n 2, 1) := by decide +kernel
theorem dL_lies_5 : decode cL_lies 5 = .ok (.invokevirtual 58, 3) := by decide +kernel
theorem dL_lies_8 : decode cL_lies 8 = .ok (.ifCond .eq 7, 3) := by decide +kernel
theorem dL_lies_11 : decode cL_lies 11 = .ok (.lconst 1, 1) := by decide +kernel
theorem dL_lies_12 : decode cL_lies 12 = .ok (.goto 4, 3) := by decide +kernel
theorem dL_lies_15 : decode cL_lies 15 = .ok (.lconst 0, 1) := by decide +kernel
theorem dL_lies_16 : decode cL_lies 16 = .ok (.lastore, 1) := by decide +kernel
theorem dL_lies_17 : decode cL_lies 17 = .ok (.goto 7, 3) := by decide +kernel
theorem dL_lies_20 : decode cL_lies 20 = .ok (.astore 4, 2) := by decide +kernel
theorem dL_lies_22 : decode cL_lies 22 = .ok (.iconst 1, 1) := by decide +kernel
theorem dL_lies_23 : decode cL_lies 23 = .ok (.ireturn, 1) := by decide +kernel
theorem dL_lies_24 : decode cL_lies 24 = .ok (.iconst 0, 1) := by decide +kernel
theorem dL_lies_25 : decode cL_lies 25 = .ok (.ireturn, 1) := by decide +kernel
theorem dL_slates_0 : decode cL_slates 0 = .ok (.aload_n 3, 1) := by decide +kernel
theorem dL_slates_1 : decode cL_slates 1 = .ok (.iconst 0, 1) := by decide +kernel
theorem dL_slates_2 : decode cL_slates 2 = .ok (.aload_n 0, 1) := by decide +kernel
theorem dL_slates_3 : decode cL_slates 3 = .ok (.iload_n 1, 1) := by decide +kernel
theorem dL_slates_4 : decode cL_slates 4 = .ok (.iload_n 2, 1) := by decide +kernel
theorem dL_slates_5 : decode cL_slates 5 = .ok (.invokevirtual 62, 3) := by decide +kernel
theorem dL_slates_8 : decode cL_slates 8 = .ok (.i2l, 1) := by decide +kernel
theorem dL_slates_9 : decode cL_slates 9 = .ok (.lastore, 1) := by decide +kernel
theorem dL_slates_10 : decode cL_slates 10 = .ok (.goto 7, 3) := by decide +kernel
theorem dL_slates_13 : decode cL_slates 13 = .ok (.astore 4, 2) := by decide +kernel
theorem dL_slates_15 : decode cL_slates 15 = .ok (.iconst 1, 1) := by decide +kernel
theorem dL_slates_16 : decode cL_slates 16 = .ok (.ireturn, 1) := by decide +kernel
theorem dL_slates_17 : decode cL_slates 17 = .ok (.iconst 0, 1) := by decide +kernel
theorem dL_slates_18 : decode cL_slates 18 = .ok (.ireturn, 1) := by decide +kernel
theorem dL_count_0 : decode cL_count 0 = .ok (.aload_n 2, 1) := by decide +kernel
theorem dL_count_1 : decode cL_count 1 = .ok (.iconst 0, 1) := by decide +kernel
theorem dL_count_2 : decode cL_count 2 = .ok (.aload_n 0, 1) := by decide +kernel
theorem dL_count_3 : decode cL_count 3 = .ok (.iload_n 1, 1) := by decide +kernel
theorem dL_count_4 : decode cL_count 4 = .ok (.invokevirtual 65, 3) := by decide +kernel
theorem dL_count_7 : decode cL_count 7 = .ok (.i2l, 1) := by decide +kernel
theorem dL_count_8 : decode cL_count 8 = .ok (.lastore, 1) := by decide +kernel
theorem dL_count_9 : decode cL_count 9 = .ok (.goto 6, 3) := by decide +kernel
theorem dL_count_12 : decode cL_count 12 = .ok (.astore_n 3, 1) := by decide +kernel
theorem dL_count_13 : decode cL_count 13 = .ok (.iconst 1, 1) := by decide +kernel
theorem dL_count_14 : decode cL_count 14 = .ok (.ireturn, 1) := by decide +kernel
theorem dL_count_15 : decode cL_count 15 = .ok (.iconst 0, 1) := by decide +kernel
theorem dL_count_16 : decode cL_count 16 = .ok (.ireturn, 1) := by decide +kernel
theorem dL_setting_0 : decode cL_setting 0 = .ok (.aload_n 2, 1) := by decide +kernel
theorem dL_setting_1 : decode cL_setting 1 = .ok (.iconst 0, 1) := by decide +kernel
theorem dL_setting_2 : decode cL_setting 2 = .ok (.aload_n 0, 1) := by decide +kernel
theorem dL_setting_3 : decode cL_setting 3 = .ok (.iload_n 1, 1) := by decide +kernel
theorem dL_setting_4 : decode cL_setting 4 = .ok (.invokevirtual 68, 3) := by decide +kernel
theorem dL_setting_7 : decode cL_setting 7 = .ok (.i2l, 1) := by decide +kernel
theorem dL_setting_8 : decode cL_setting 8 = .ok (.lastore, 1) := by decide +kernel
theorem dL_setting_9 : decode cL_setting 9 = .ok (.goto 6, 3) := by decide +kernel
theorem dL_setting_12 : decode cL_setting 12 = .ok (.astore_n 3, 1) := by decide +kernel
theorem dL_setting_13 : decode cL_setting 13 = .ok (.iconst 1, 1) := by decide +kernel
theorem dL_setting_14 : decode cL_setting 14 = .ok (.ireturn, 1) := by decide +kernel
theorem dL_setting_15 : decode cL_setting 15 = .ok (.iconst 0, 1) := by decide +kernel
theorem dL_setting_16 : decode cL_setting 16 = .ok (.ireturn, 1) := by decide +kernel
theorem dL_toTop_0 : decode cL_toTop 0 = .ok (.aload_n 3, 1) := by decide +kernel
theorem dL_toTop_1 : decode cL_toTop 1 = .ok (.iconst 0, 1) := by decide +kernel
theorem dL_toTop_2 : decode cL_toTop 2 = .ok (.aload_n 0, 1) := by decide +kernel
theorem dL_toTop_3 : decode cL_toTop 3 = .ok (.iload_n 1, 1) := by decide +kernel
theorem dL_toTop_4 : decode cL_toTop 4 = .ok (.iload_n 2, 1) := by decide +kernel
theorem dL_toTop_5 : decode cL_toTop 5 = .ok (.invokevirtual 71, 3) := by decide +kernel
theorem dL_toTop_8 : decode cL_toTop 8 = .ok (.i2l, 1) := by decide +kernel
theorem dL_toTop_9 : decode cL_toTop 9 = .ok (.lastore, 1) := by decide +kernel
theorem dL_toTop_10 : decode cL_toTop 10 = .ok (.goto 7, 3) := by decide +kernel
theorem dL_toTop_13 : decode cL_toTop 13 = .ok (.astore 4, 2) := by decide +kernel
theorem dL_toTop_15 : decode cL_toTop 15 = .ok (.iconst 1, 1) := by decide +kernel
theorem dL_toTop_16 : decode cL_toTop 16 = .ok (.ireturn, 1) := by decide +kernel
theorem dL_toTop_17 : decode cL_toTop 17 = .ok (.iconst 0, 1) := by decide +kernel
theorem dL_toTop_18 : decode cL_toTop 18 = .ok (.ireturn, 1) := by decide +kernel
theorem dL_reach_0 : decode cL_reach 0 = .ok (.aload_n 2, 1) := by decide +kernel
theorem dL_reach_1 : decode cL_reach 1 = .ok (.iconst 0, 1) := by decide +kernel
theorem dL_reach_2 : decode cL_reach 2 = .ok (.aload_n 0, 1) := by decide +kernel
theorem dL_reach_3 : decode cL_reach 3 = .ok (.iload_n 1, 1) := by decide +kernel
theorem dL_reach_4 : decode cL_reach 4 = .ok (.invokevirtual 74, 3) := by decide +kernel
theorem dL_reach_7 : decode cL_reach 7 = .ok (.i2l, 1) := by decide +kernel
theorem dL_reach_8 : decode cL_reach 8 = .ok (.lastore, 1) := by decide +kernel
theorem dL_reach_9 : decode cL_reach 9 = .ok (.goto 6, 3) := by decide +kernel
theorem dL_reach_12 : decode cL_reach 12 = .ok (.astore_n 3, 1) := by decide +kernel
theorem dL_reach_13 : decode cL_reach 13 = .ok (.iconst 1, 1) := by decide +kernel
theorem dL_reach_14 : decode cL_reach 14 = .ok (.ireturn, 1) := by decide +kernel
theorem dL_reach_15 : decode cL_reach 15 = .ok (.iconst 0, 1) := by decide +kernel
theorem dL_reach_16 : decode cL_reach 16 = .ok (.ireturn, 1) := by decide +kernel
theorem dL_law_0 : decode cL_law 0 = .ok (.new 8, 3) := by decide +kernel
theorem dL_law_3 : decode cL_law 3 = .ok (.dup, 1) := by decide +kernel
theorem dL_law_4 : decode cL_law 4 = .ok (.invokespecial 77, 3) := by decide +kernel
theorem dL_law_7 : decode cL_law 7 = .ok (.astore_n 1, 1) := by decide +kernel
theorem dL_law_8 : decode cL_law 8 = .ok (.new 78, 3) := by decide +kernel
theorem dL_law_11 : decode cL_law 11 = .ok (.dup, 1) := by decide +kernel
theorem dL_law_12 : decode cL_law 12 = .ok (.invokespecial 80, 3) := by decide +kernel
theorem dL_law_15 : decode cL_law 15 = .ok (.astore_n 2, 1) := by decide +kernel
theorem dL_law_16 : decode cL_law 16 = .ok (.iconst 1, 1) := by decide +kernel
theorem dL_law_17 : decode cL_law 17 = .ok (.newarray .long, 2) := by decide +kernel
theorem dL_law_19 : decode cL_law 19 = .ok (.astore_n 3, 1) := by decide +kernel
theorem dL_law_20 : decode cL_law 20 = .ok (.iconst 0, 1) := by decide +kernel
theorem dL_law_21 : decode cL_law 21 = .ok (.istore 4, 2) := by decide +kernel
theorem dL_law_23 : decode cL_law 23 = .ok (.iload 4, 2) := by decide +kernel
theorem dL_law_25 : decode cL_law 25 = .ok (.aload_n 0, 1) := by decide +kernel
theorem dL_law_26 : decode cL_law 26 = .ok (.arraylength, 1) := by decide +kernel
theorem dL_law_27 : decode cL_law 27 = .ok (.iconst 4, 1) := by decide +kernel
theorem dL_law_28 : decode cL_law 28 = .ok (.isub, 1) := by decide +kernel
theorem dL_law_29 : decode cL_law 29 = .ok (.if_icmp .gt 1460, 3) := by decide +kernel
theorem dL_law_32 : decode cL_law 32 = .ok (.aload_n 0, 1) := by decide +kernel
theorem dL_law_33 : decode cL_law 33 = .ok (.iload 4, 2) := by decide +kernel
theorem dL_law_35 : decode cL_law 35 = .ok (.iaload, 1) := by decide +kernel
theorem dL_law_36 : decode cL_law 36 = .ok (.bipush 31, 2) := by decide +kernel
theorem dL_law_38 : decode cL_law 38 = .ok (.iand, 1) := by decide +kernel
theorem dL_law_39 : decode cL_law 39 = .ok (.tableswitch 1444 0 25 #[117, 185, 253, 333, 413, 469, 525, 581, 649, 690, 746, 802, 815, 828, 872, 916, 984, 1059, 1127, 1183, 1239, 1307, 1363, 1376, 1389, 1430], 117) := by decide +kernel
theorem dL_law_156 : decode cL_law 156 = .ok (.aload_n 1, 1) := by decide +kernel
theorem dL_law_157 : decode cL_law 157 = .ok (.aload_n 0, 1) := by decide +kernel
theorem dL_law_158 : decode cL_law 158 = .ok (.iload 4, 2) := by decide +kernel
theorem dL_law_160 : decode cL_law 160 = .ok (.iconst 1, 1) := by decide +kernel
theorem dL_law_161 : decode cL_law 161 = .ok (.iadd, 1) := by decide +kernel
theorem dL_law_162 : decode cL_law 162 = .ok (.iaload, 1) := by decide +kernel
theorem dL_law_163 : decode cL_law 163 = .ok (.aload_n 0, 1) := by decide +kernel
theorem dL_law_164 : decode cL_law 164 = .ok (.iload 4, 2) := by decide +kernel
theorem dL_law_166 : decode cL_law 166 = .ok (.iconst 2, 1) := by decide +kernel
theorem dL_law_167 : decode cL_law 167 = .ok (.iadd, 1) := by decide +kernel
theorem dL_law_168 : decode cL_law 168 = .ok (.iaload, 1) := by decide +kernel
theorem dL_law_169 : decode cL_law 169 = .ok (.aload_n 3, 1) := by decide +kernel
theorem dL_law_170 : decode cL_law 170 = .ok (.invokestatic 81, 3) := by decide +kernel
theorem dL_law_173 : decode cL_law 173 = .ok (.istore 5, 2) := by decide +kernel
theorem dL_law_175 : decode cL_law 175 = .ok (.aload_n 2, 1) := by decide +kernel
theorem dL_law_176 : decode cL_law 176 = .ok (.aload_n 0, 1) := by decide +kernel
theorem dL_law_177 : decode cL_law 177 = .ok (.iload 4, 2) := by decide +kernel
theorem dL_law_179 : decode cL_law 179 = .ok (.iconst 1, 1) := by decide +kernel
theorem dL_law_180 : decode cL_law 180 = .ok (.iadd, 1) := by decide +kernel
theorem dL_law_181 : decode cL_law 181 = .ok (.iaload, 1) := by decide +kernel
theorem dL_law_182 : decode cL_law 182 = .ok (.aload_n 0, 1) := by decide +kernel
theorem dL_law_183 : decode cL_law 183 = .ok (.iload 4, 2) := by decide +kernel
theorem dL_law_185 : decode cL_law 185 = .ok (.iconst 2, 1) := by decide +kernel
theorem dL_law_186 : decode cL_law 186 = .ok (.iadd, 1) := by decide +kernel
theorem dL_law_187 : decode cL_law 187 = .ok (.iaload, 1) := by decide +kernel
theorem dL_law_188 : decode cL_law 188 = .ok (.invokevirtual 86, 3) := by decide +kernel
theorem dL_law_191 : decode cL_law 191 = .ok (.istore 6, 2) := by decide +kernel
theorem dL_law_193 : decode cL_law 193 = .ok (.aload_n 2, 1) := by decide +kernel
theorem dL_law_194 : decode cL_law 194 = .ok (.invokevirtual 87, 3) := by decide +kernel
theorem dL_law_197 : decode cL_law 197 = .ok (.iload 5, 2) := by decide +kernel
theorem dL_law_199 : decode cL_law 199 = .ok (.if_icmp .eq 5, 3) := by decide +kernel
theorem dL_law_202 : decode cL_law 202 = .ok (.iconst 0, 1) := by decide +kernel
theorem dL_law_203 : decode cL_law 203 = .ok (.ireturn, 1) := by decide +kernel
theorem dL_law_204 : decode cL_law 204 = .ok (.iload 5, 2) := by decide +kernel
theorem dL_law_206 : decode cL_law 206 = .ok (.ifCond .ne 15, 3) := by decide +kernel
theorem dL_law_209 : decode cL_law 209 = .ok (.aload_n 3, 1) := by decide +kernel
theorem dL_law_210 : decode cL_law 210 = .ok (.iconst 0, 1) := by decide +kernel
theorem dL_law_211 : decode cL_law 211 = .ok (.laload, 1) := by decide +kernel
theorem dL_law_212 : decode cL_law 212 = .ok (.iload 6, 2) := by decide +kernel
theorem dL_law_214 : decode cL_law 214 = .ok (.i2l, 1) := by decide +kernel
theorem dL_law_215 : decode cL_law 215 = .ok (.lcmp, 1) := by decide +kernel
theorem dL_law_216 : decode cL_law 216 = .ok (.ifCond .eq 5, 3) := by decide +kernel
theorem dL_law_219 : decode cL_law 219 = .ok (.iconst 0, 1) := by decide +kernel
theorem dL_law_220 : decode cL_law 220 = .ok (.ireturn, 1) := by decide +kernel
theorem dL_law_221 : decode cL_law 221 = .ok (.goto 1262, 3) := by decide +kernel
theorem dL_law_224 : decode cL_law 224 = .ok (.aload_n 1, 1) := by decide +kernel
theorem dL_law_225 : decode cL_law 225 = .ok (.aload_n 0, 1) := by decide +kernel
theorem dL_law_226 : decode cL_law 226 = .ok (.iload 4, 2) := by decide +kernel
theorem dL_law_228 : decode cL_law 228 = .ok (.iconst 1, 1) := by decide +kernel
theorem dL_law_229 : decode cL_law 229 = .ok (.iadd, 1) := by decide +kernel
theorem dL_law_230 : decode cL_law 230 = .ok (.iaload, 1) := by decide +kernel
theorem dL_law_231 : decode cL_law 231 = .ok (.aload_n 0, 1) := by decide +kernel
theorem dL_law_232 : decode cL_law 232 = .ok (.iload 4, 2) := by decide +kernel
theorem dL_law_234 : decode cL_law 234 = .ok (.iconst 2, 1) := by decide +kernel
theorem dL_law_235 : decode cL_law 235 = .ok (.iadd, 1) := by decide +kernel
theorem dL_law_236 : decode cL_law 236 = .ok (.iaload, 1) := by decide +kernel
theorem dL_law_237 : decode cL_law 237 = .ok (.aload_n 3, 1) := by decide +kernel
theorem dL_law_238 : decode cL_law 238 = .ok (.invokestatic 90, 3) := by decide +kernel
theorem dL_law_241 : decode cL_law 241 = .ok (.istore 5, 2) := by decide +kernel
theorem dL_law_243 : decode cL_law 243 = .ok (.aload_n 2, 1) := by decide +kernel
theorem dL_law_244 : decode cL_law 244 = .ok (.aload_n 0, 1) := by decide +kernel
theorem dL_law_245 : decode cL_law 245 = .ok (.iload 4, 2) := by decide +kernel
theorem dL_law_247 : decode cL_law 247 = .ok (.iconst 1, 1) := by decide +kernel
theorem dL_law_248 : decode cL_law 248 = .ok (.iadd, 1) := by decide +kernel
theorem dL_law_249 : decode cL_law 249 = .ok (.iaload, 1) := by decide +kernel
theorem dL_law_250 : decode cL_law 250 = .ok (.aload_n 0, 1) := by decide +kernel
theorem dL_law_251 : decode cL_law 251 = .ok (.iload 4, 2) := by decide +kernel
theorem dL_law_253 : decode cL_law 253 = .ok (.iconst 2, 1) := by decide +kernel
theorem dL_law_254 : decode cL_law 254 = .ok (.iadd, 1) := by decide +kernel
theorem dL_law_255 : decode cL_law 255 = .ok (.iaload, 1) := by decide +kernel
theorem dL_law_256 : decode cL_law 256 = .ok (.invokevirtual 92, 3) := by decide +kernel
theorem dL_law_259 : decode cL_law 259 = .ok (.istore 6, 2) := by decide +kernel
theorem dL_law_261 : decode cL_law 261 = .ok (.aload_n 2, 1) := by decide +kernel
theorem dL_law_262 : decode cL_law 262 = .ok (.invokevirtual 87, 3) := by decide +kernel
theorem dL_law_265 : decode cL_law 265 = .ok (.iload 5, 2) := by decide +kernel
theorem dL_law_267 : decode cL_law 267 = .ok (.if_icmp .eq 5, 3) := by decide +kernel
theorem dL_law_270 : decode cL_law 270 = .ok (.iconst 0, 1) := by decide +kernel
theorem dL_law_271 : decode cL_law 271 = .ok (.ireturn, 1) := by decide +kernel
theorem dL_law_272 : decode cL_law 272 = .ok (.iload 5, 2) := by decide +kernel
theorem dL_law_274 : decode cL_law 274 = .ok (.ifCond .ne 15, 3) := by decide +kernel
theorem dL_law_277 : decode cL_law 277 = .ok (.aload_n 3, 1) := by decide +kernel
theorem dL_law_278 : decode cL_law 278 = .ok (.iconst 0, 1) := by decide +kernel
theorem dL_law_279 : decode cL_law 279 = .ok (.laload, 1) := by decide +kernel
theorem dL_law_280 : decode cL_law 280 = .ok (.iload 6, 2) := by decide +kernel
theorem dL_law_282 : decode cL_law 282 = .ok (.i2l, 1) := by decide +kernel
theorem dL_law_283 : decode cL_law 283 = .ok (.lcmp, 1) := by decide +kernel
theorem dL_law_284 : decode cL_law 284 = .ok (.ifCond .eq 5, 3) := by decide +kernel
theorem dL_law_287 : decode cL_law 287 = .ok (.iconst 0, 1) := by decide +kernel
theorem dL_law_288 : decode cL_law 288 = .ok (.ireturn, 1) := by decide +kernel
theorem dL_law_289 : decode cL_law 289 = .ok (.goto 1194, 3) := by decide +kernel
theorem dL_law_292 : decode cL_law 292 = .ok (.aload_n 1, 1) := by decide +kernel
theorem dL_law_293 : decode cL_law 293 = .ok (.aload_n 0, 1) := by decide +kernel
theorem dL_law_294 : decode cL_law 294 = .ok (.iload 4, 2) := by decide +kernel
theorem dL_law_296 : decode cL_law 296 = .ok (.iconst 1, 1) := by decide +kernel
theorem dL_law_297 : decode cL_law 297 = .ok (.iadd, 1) := by decide +kernel
theorem dL_law_298 : decode cL_law 298 = .ok (.iaload, 1) := by decide +kernel
theorem dL_law_299 : decode cL_law 299 = .ok (.aload_n 0, 1) := by decide +kernel
theorem dL_law_300 : decode cL_law 300 = .ok (.iload 4, 2) := by decide +kernel
theorem dL_law_302 : decode cL_law 302 = .ok (.iconst 2, 1) := by decide +kernel
theorem dL_law_303 : decode cL_law 303 = .ok (.iadd, 1) := by decide +kernel
theorem dL_law_304 : decode cL_law 304 = .ok (.iaload, 1) := by decide +kernel
theorem dL_law_305 : decode cL_law 305 = .ok (.aload_n 0, 1) := by decide +kernel
theorem dL_law_306 : decode cL_law 306 = .ok (.iload 4, 2) := by decide +kernel
theorem dL_law_308 : decode cL_law 308 = .ok (.iconst 3, 1) := by decide +kernel
theorem dL_law_309 : decode cL_law 309 = .ok (.iadd, 1) := by decide +kernel
theorem dL_law_310 : decode cL_law 310 = .ok (.iaload, 1) := by decide +kernel
theorem dL_law_311 : decode cL_law 311 = .ok (.aload_n 3, 1) := by decide +kernel
theorem dL_law_312 : decode cL_law 312 = .ok (.invokestatic 93, 3) := by decide +kernel
theorem dL_law_315 : decode cL_law 315 = .ok (.istore 5, 2) := by decide +kernel
theorem dL_law_317 : decode cL_law 317 = .ok (.aload_n 2, 1) := by decide +kernel
theorem dL_law_318 : decode cL_law 318 = .ok (.aload_n 0, 1) := by decide +kernel
theorem dL_law_319 : decode cL_law 319 = .ok (.iload 4, 2) := by decide +kernel
theorem dL_law_321 : decode cL_law 321 = .ok (.iconst 1, 1) := by decide +kernel
theorem dL_law_322 : decode cL_law 322 = .ok (.iadd, 1) := by decide +kernel
theorem dL_law_323 : decode cL_law 323 = .ok (.iaload, 1) := by decide +kernel
theorem dL_law_324 : decode cL_law 324 = .ok (.aload_n 0, 1) := by decide +kernel
theorem dL_law_325 : decode cL_law 325 = .ok (.iload 4, 2) := by decide +kernel
theorem dL_law_327 : decode cL_law 327 = .ok (.iconst 2, 1) := by decide +kernel
theorem dL_law_328 : decode cL_law 328 = .ok (.iadd, 1) := by decide +kernel
theorem dL_law_329 : decode cL_law 329 = .ok (.iaload, 1) := by decide +kernel
theorem dL_law_330 : decode cL_law 330 = .ok (.aload_n 0, 1) := by decide +kernel
theorem dL_law_331 : decode cL_law 331 = .ok (.iload 4, 2) := by decide +kernel
theorem dL_law_333 : decode cL_law 333 = .ok (.iconst 3, 1) := by decide +kernel
theorem dL_law_334 : decode cL_law 334 = .ok (.iadd, 1) := by decide +kernel
theorem dL_law_335 : decode cL_law 335 = .ok (.iaload, 1) := by decide +kernel
theorem dL_law_336 : decode cL_law 336 = .ok (.invokevirtual 96, 3) := by decide +kernel
theorem dL_law_339 : decode cL_law 339 = .ok (.istore 6, 2) := by decide +kernel
theorem dL_law_341 : decode cL_law 341 = .ok (.aload_n 2, 1) := by decide +kernel
theorem dL_law_342 : decode cL_law 342 = .ok (.invokevirtual 87, 3) := by decide +kernel
theorem dL_law_345 : decode cL_law 345 = .ok (.iload 5, 2) := by decide +kernel
theorem dL_law_347 : decode cL_law 347 = .ok (.if_icmp .eq 5, 3) := by decide +kernel
theorem dL_law_350 : decode cL_law 350 = .ok (.iconst 0, 1) := by decide +kernel
theorem dL_law_351 : decode cL_law 351 = .ok (.ireturn, 1) := by decide +kernel
theorem dL_law_352 : decode cL_law 352 = .ok (.iload 5, 2) := by decide +kernel
theorem dL_law_354 : decode cL_law 354 = .ok (.ifCond .ne 15, 3) := by decide +kernel
theorem dL_law_357 : decode cL_law 357 = .ok (.aload_n 3, 1) := by decide +kernel
theorem dL_law_358 : decode cL_law 358 = .ok (.iconst 0, 1) := by decide +kernel
theorem dL_law_359 : decode cL_law 359 = .ok (.laload, 1) := by decide +kernel
theorem dL_law_360 : decode cL_law 360 = .ok (.iload 6, 2) := by decide +kernel
theorem dL_law_362 : decode cL_law 362 = .ok (.i2l, 1) := by decide +kernel
theorem dL_law_363 : decode cL_law 363 = .ok (.lcmp, 1) := by decide +kernel
theorem dL_law_364 : decode cL_law 364 = .ok (.ifCond .eq 5, 3) := by decide +kernel
theorem dL_law_367 : decode cL_law 367 = .ok (.iconst 0, 1) := by decide +kernel
theorem dL_law_368 : decode cL_law 368 = .ok (.ireturn, 1) := by decide +kernel
theorem dL_law_369 : decode cL_law 369 = .ok (.goto 1114, 3) := by decide +kernel
theorem dL_law_372 : decode cL_law 372 = .ok (.aload_n 1, 1) := by decide +kernel
theorem dL_law_373 : decode cL_law 373 = .ok (.aload_n 0, 1) := by decide +kernel
theorem dL_law_374 : decode cL_law 374 = .ok (.iload 4, 2) := by decide +kernel
theorem dL_law_376 : decode cL_law 376 = .ok (.iconst 1, 1) := by decide +kernel
theorem dL_law_377 : decode cL_law 377 = .ok (.iadd, 1) := by decide +kernel
theorem dL_law_378 : decode cL_law 378 = .ok (.iaload, 1) := by decide +kernel
theorem dL_law_379 : decode cL_law 379 = .ok (.aload_n 0, 1) := by decide +kernel
theorem dL_law_380 : decode cL_law 380 = .ok (.iload 4, 2) := by decide +kernel
theorem dL_law_382 : decode cL_law 382 = .ok (.iconst 2, 1) := by decide +kernel
theorem dL_law_383 : decode cL_law 383 = .ok (.iadd, 1) := by decide +kernel
theorem dL_law_384 : decode cL_law 384 = .ok (.iaload, 1) := by decide +kernel
theorem dL_law_385 : decode cL_law 385 = .ok (.aload_n 0, 1) := by decide +kernel
theorem dL_law_386 : decode cL_law 386 = .ok (.iload 4, 2) := by decide +kernel
theorem dL_law_388 : decode cL_law 388 = .ok (.iconst 3, 1) := by decide +kernel
theorem dL_law_389 : decode cL_law 389 = .ok (.iadd, 1) := by decide +kernel
theorem dL_law_390 : decode cL_law 390 = .ok (.iaload, 1) := by decide +kernel
theorem dL_law_391 : decode cL_law 391 = .ok (.aload_n 3, 1) := by decide +kernel
theorem dL_law_392 : decode cL_law 392 = .ok (.invokestatic 97, 3) := by decide +kernel
theorem dL_law_395 : decode cL_law 395 = .ok (.istore 5, 2) := by decide +kernel
theorem dL_law_397 : decode cL_law 397 = .ok (.aload_n 2, 1) := by decide +kernel
theorem dL_law_398 : decode cL_law 398 = .ok (.aload_n 0, 1) := by decide +kernel
theorem dL_law_399 : decode cL_law 399 = .ok (.iload 4, 2) := by decide +kernel
theorem dL_law_401 : decode cL_law 401 = .ok (.iconst 1, 1) := by decide +kernel
theorem dL_law_402 : decode cL_law 402 = .ok (.iadd, 1) := by decide +kernel
theorem dL_law_403 : decode cL_law 403 = .ok (.iaload, 1) := by decide +kernel
theorem dL_law_404 : decode cL_law 404 = .ok (.aload_n 0, 1) := by decide +kernel
theorem dL_law_405 : decode cL_law 405 = .ok (.iload 4, 2) := by decide +kernel
theorem dL_law_407 : decode cL_law 407 = .ok (.iconst 2, 1) := by decide +kernel
theorem dL_law_408 : decode cL_law 408 = .ok (.iadd, 1) := by decide +kernel
theorem dL_law_409 : decode cL_law 409 = .ok (.iaload, 1) := by decide +kernel
theorem dL_law_410 : decode cL_law 410 = .ok (.aload_n 0, 1) := by decide +kernel
theorem dL_law_411 : decode cL_law 411 = .ok (.iload 4, 2) := by decide +kernel
theorem dL_law_413 : decode cL_law 413 = .ok (.iconst 3, 1) := by decide +kernel
theorem dL_law_414 : decode cL_law 414 = .ok (.iadd, 1) := by decide +kernel
theorem dL_law_415 : decode cL_law 415 = .ok (.iaload, 1) := by decide +kernel
theorem dL_law_416 : decode cL_law 416 = .ok (.invokevirtual 99, 3) := by decide +kernel
theorem dL_law_419 : decode cL_law 419 = .ok (.istore 6, 2) := by decide +kernel
theorem dL_law_421 : decode cL_law 421 = .ok (.aload_n 2, 1) := by decide +kernel
theorem dL_law_422 : decode cL_law 422 = .ok (.invokevirtual 87, 3) := by decide +kernel
theorem dL_law_425 : decode cL_law 425 = .ok (.iload 5, 2) := by decide +kernel
theorem dL_law_427 : decode cL_law 427 = .ok (.if_icmp .eq 5, 3) := by decide +kernel
theorem dL_law_430 : decode cL_law 430 = .ok (.iconst 0, 1) := by decide +kernel
theorem dL_law_431 : decode cL_law 431 = .ok (.ireturn, 1) := by decide +kernel
theorem dL_law_432 : decode cL_law 432 = .ok (.iload 5, 2) := by decide +kernel
theorem dL_law_434 : decode cL_law 434 = .ok (.ifCond .ne 15, 3) := by decide +kernel
theorem dL_law_437 : decode cL_law 437 = .ok (.aload_n 3, 1) := by decide +kernel
theorem dL_law_438 : decode cL_law 438 = .ok (.iconst 0, 1) := by decide +kernel
theorem dL_law_439 : decode cL_law 439 = .ok (.laload, 1) := by decide +kernel
theorem dL_law_440 : decode cL_law 440 = .ok (.iload 6, 2) := by decide +kernel
theorem dL_law_442 : decode cL_law 442 = .ok (.i2l, 1) := by decide +kernel
theorem dL_law_443 : decode cL_law 443 = .ok (.lcmp, 1) := by decide +kernel
theorem dL_law_444 : decode cL_law 444 = .ok (.ifCond .eq 5, 3) := by decide +kernel
theorem dL_law_447 : decode cL_law 447 = .ok (.iconst 0, 1) := by decide +kernel
theorem dL_law_448 : decode cL_law 448 = .ok (.ireturn, 1) := by decide +kernel
theorem dL_law_449 : decode cL_law 449 = .ok (.goto 1034, 3) := by decide +kernel
theorem dL_law_452 : decode cL_law 452 = .ok (.aload_n 1, 1) := by decide +kernel
theorem dL_law_453 : decode cL_law 453 = .ok (.aload_n 0, 1) := by decide +kernel
theorem dL_law_454 : decode cL_law 454 = .ok (.iload 4, 2) := by decide +kernel
theorem dL_law_456 : decode cL_law 456 = .ok (.iconst 1, 1) := by decide +kernel
theorem dL_law_457 : decode cL_law 457 = .ok (.iadd, 1) := by decide +kernel
theorem dL_law_458 : decode cL_law 458 = .ok (.iaload, 1) := by decide +kernel
theorem dL_law_459 : decode cL_law 459 = .ok (.aload_n 3, 1) := by decide +kernel
theorem dL_law_460 : decode cL_law 460 = .ok (.invokestatic 100, 3) := by decide +kernel
theorem dL_law_463 : decode cL_law 463 = .ok (.istore 5, 2) := by decide +kernel
theorem dL_law_465 : decode cL_law 465 = .ok (.aload_n 2, 1) := by decide +kernel
theorem dL_law_466 : decode cL_law 466 = .ok (.aload_n 0, 1) := by decide +kernel
theorem dL_law_467 : decode cL_law 467 = .ok (.iload 4, 2) := by decide +kernel
theorem dL_law_469 : decode cL_law 469 = .ok (.iconst 1, 1) := by decide +kernel
theorem dL_law_470 : decode cL_law 470 = .ok (.iadd, 1) := by decide +kernel
theorem dL_law_471 : decode cL_law 471 = .ok (.iaload, 1) := by decide +kernel
theorem dL_law_472 : decode cL_law 472 = .ok (.invokevirtual 103, 3) := by decide +kernel
theorem dL_law_475 : decode cL_law 475 = .ok (.istore 6, 2) := by decide +kernel
theorem dL_law_477 : decode cL_law 477 = .ok (.aload_n 2, 1) := by decide +kernel
theorem dL_law_478 : decode cL_law 478 = .ok (.invokevirtual 87, 3) := by decide +kernel
theorem dL_law_481 : decode cL_law 481 = .ok (.iload 5, 2) := by decide +kernel
theorem dL_law_483 : decode cL_law 483 = .ok (.if_icmp .eq 5, 3) := by decide +kernel
theorem dL_law_486 : decode cL_law 486 = .ok (.iconst 0, 1) := by decide +kernel
theorem dL_law_487 : decode cL_law 487 = .ok (.ireturn, 1) := by decide +kernel
theorem dL_law_488 : decode cL_law 488 = .ok (.iload 5, 2) := by decide +kernel
theorem dL_law_490 : decode cL_law 490 = .ok (.ifCond .ne 15, 3) := by decide +kernel
theorem dL_law_493 : decode cL_law 493 = .ok (.aload_n 3, 1) := by decide +kernel
theorem dL_law_494 : decode cL_law 494 = .ok (.iconst 0, 1) := by decide +kernel
theorem dL_law_495 : decode cL_law 495 = .ok (.laload, 1) := by decide +kernel
theorem dL_law_496 : decode cL_law 496 = .ok (.iload 6, 2) := by decide +kernel
theorem dL_law_498 : decode cL_law 498 = .ok (.i2l, 1) := by decide +kernel
theorem dL_law_499 : decode cL_law 499 = .ok (.lcmp, 1) := by decide +kernel
theorem dL_law_500 : decode cL_law 500 = .ok (.ifCond .eq 5, 3) := by decide +kernel
theorem dL_law_503 : decode cL_law 503 = .ok (.iconst 0, 1) := by decide +kernel
theorem dL_law_504 : decode cL_law 504 = .ok (.ireturn, 1) := by decide +kernel
theorem dL_law_505 : decode cL_law 505 = .ok (.goto 978, 3) := by decide +kernel
theorem dL_law_508 : decode cL_law 508 = .ok (.aload_n 1, 1) := by decide +kernel
theorem dL_law_509 : decode cL_law 509 = .ok (.aload_n 0, 1) := by decide +kernel
theorem dL_law_510 : decode cL_law 510 = .ok (.iload 4, 2) := by decide +kernel
theorem dL_law_512 : decode cL_law 512 = .ok (.iconst 1, 1) := by decide +kernel
theorem dL_law_513 : decode cL_law 513 = .ok (.iadd, 1) := by decide +kernel
theorem dL_law_514 : decode cL_law 514 = .ok (.iaload, 1) := by decide +kernel
theorem dL_law_515 : decode cL_law 515 = .ok (.aload_n 3, 1) := by decide +kernel
theorem dL_law_516 : decode cL_law 516 = .ok (.invokestatic 104, 3) := by decide +kernel
theorem dL_law_519 : decode cL_law 519 = .ok (.istore 5, 2) := by decide +kernel
theorem dL_law_521 : decode cL_law 521 = .ok (.aload_n 2, 1) := by decide +kernel
theorem dL_law_522 : decode cL_law 522 = .ok (.aload_n 0, 1) := by decide +kernel
theorem dL_law_523 : decode cL_law 523 = .ok (.iload 4, 2) := by decide +kernel
theorem dL_law_525 : decode cL_law 525 = .ok (.iconst 1, 1) := by decide +kernel
theorem dL_law_526 : decode cL_law 526 = .ok (.iadd, 1) := by decide +kernel
theorem dL_law_527 : decode cL_law 527 = .ok (.iaload, 1) := by decide +kernel
theorem dL_law_528 : decode cL_law 528 = .ok (.invokevirtual 106, 3) := by decide +kernel
theorem dL_law_531 : decode cL_law 531 = .ok (.istore 6, 2) := by decide +kernel
theorem dL_law_533 : decode cL_law 533 = .ok (.aload_n 2, 1) := by decide +kernel
theorem dL_law_534 : decode cL_law 534 = .ok (.invokevirtual 87, 3) := by decide +kernel
theorem dL_law_537 : decode cL_law 537 = .ok (.iload 5, 2) := by decide +kernel
theorem dL_law_539 : decode cL_law 539 = .ok (.if_icmp .eq 5, 3) := by decide +kernel
theorem dL_law_542 : decode cL_law 542 = .ok (.iconst 0, 1) := by decide +kernel
theorem dL_law_543 : decode cL_law 543 = .ok (.ireturn, 1) := by decide +kernel
theorem dL_law_544 : decode cL_law 544 = .ok (.iload 5, 2) := by decide +kernel
theorem dL_law_546 : decode cL_law 546 = .ok (.ifCond .ne 15, 3) := by decide +kernel
theorem dL_law_549 : decode cL_law 549 = .ok (.aload_n 3, 1) := by decide +kernel
theorem dL_law_550 : decode cL_law 550 = .ok (.iconst 0, 1) := by decide +kernel
theorem dL_law_551 : decode cL_law 551 = .ok (.laload, 1) := by decide +kernel
theorem dL_law_552 : decode cL_law 552 = .ok (.iload 6, 2) := by decide +kernel
theorem dL_law_554 : decode cL_law 554 = .ok (.i2l, 1) := by decide +kernel
theorem dL_law_555 : decode cL_law 555 = .ok (.lcmp, 1) := by decide +kernel
theorem dL_law_556 : decode cL_law 556 = .ok (.ifCond .eq 5, 3) := by decide +kernel
theorem dL_law_559 : decode cL_law 559 = .ok (.iconst 0, 1) := by decide +kernel
theorem dL_law_560 : decode cL_law 560 = .ok (.ireturn, 1) := by decide +kernel
theorem dL_law_561 : decode cL_law 561 = .ok (.goto 922, 3) := by decide +kernel
theorem dL_law_564 : decode cL_law 564 = .ok (.aload_n 1, 1) := by decide +kernel
theorem dL_law_565 : decode cL_law 565 = .ok (.aload_n 0, 1) := by decide +kernel
theorem dL_law_566 : decode cL_law 566 = .ok (.iload 4, 2) := by decide +kernel
theorem dL_law_568 : decode cL_law 568 = .ok (.iconst 1, 1) := by decide +kernel
theorem dL_law_569 : decode cL_law 569 = .ok (.iadd, 1) := by decide +kernel
theorem dL_law_570 : decode cL_law 570 = .ok (.iaload, 1) := by decide +kernel
theorem dL_law_571 : decode cL_law 571 = .ok (.aload_n 3, 1) := by decide +kernel
theorem dL_law_572 : decode cL_law 572 = .ok (.invokestatic 107, 3) := by decide +kernel
theorem dL_law_575 : decode cL_law 575 = .ok (.istore 5, 2) := by decide +kernel
theorem dL_law_577 : decode cL_law 577 = .ok (.aload_n 2, 1) := by decide +kernel
theorem dL_law_578 : decode cL_law 578 = .ok (.aload_n 0, 1) := by decide +kernel
theorem dL_law_579 : decode cL_law 579 = .ok (.iload 4, 2) := by decide +kernel
theorem dL_law_581 : decode cL_law 581 = .ok (.iconst 1, 1) := by decide +kernel
theorem dL_law_582 : decode cL_law 582 = .ok (.iadd, 1) := by decide +kernel
theorem dL_law_583 : decode cL_law 583 = .ok (.iaload, 1) := by decide +kernel
theorem dL_law_584 : decode cL_law 584 = .ok (.invokevirtual 109, 3) := by decide +kernel
theorem dL_law_587 : decode cL_law 587 = .ok (.istore 6, 2) := by decide +kernel
theorem dL_law_589 : decode cL_law 589 = .ok (.aload_n 2, 1) := by decide +kernel
theorem dL_law_590 : decode cL_law 590 = .ok (.invokevirtual 87, 3) := by decide +kernel
theorem dL_law_593 : decode cL_law 593 = .ok (.iload 5, 2) := by decide +kernel
theorem dL_law_595 : decode cL_law 595 = .ok (.if_icmp .eq 5, 3) := by decide +kernel
theorem dL_law_598 : decode cL_law 598 = .ok (.iconst 0, 1) := by decide +kernel
theorem dL_law_599 : decode cL_law 599 = .ok (.ireturn, 1) := by decide +kernel
theorem dL_law_600 : decode cL_law 600 = .ok (.iload 5, 2) := by decide +kernel
theorem dL_law_602 : decode cL_law 602 = .ok (.ifCond .ne 15, 3) := by decide +kernel
theorem dL_law_605 : decode cL_law 605 = .ok (.aload_n 3, 1) := by decide +kernel
theorem dL_law_606 : decode cL_law 606 = .ok (.iconst 0, 1) := by decide +kernel
theorem dL_law_607 : decode cL_law 607 = .ok (.laload, 1) := by decide +kernel
theorem dL_law_608 : decode cL_law 608 = .ok (.iload 6, 2) := by decide +kernel
theorem dL_law_610 : decode cL_law 610 = .ok (.i2l, 1) := by decide +kernel
theorem dL_law_611 : decode cL_law 611 = .ok (.lcmp, 1) := by decide +kernel
theorem dL_law_612 : decode cL_law 612 = .ok (.ifCond .eq 5, 3) := by decide +kernel
theorem dL_law_615 : decode cL_law 615 = .ok (.iconst 0, 1) := by decide +kernel
theorem dL_law_616 : decode cL_law 616 = .ok (.ireturn, 1) := by decide +kernel
theorem dL_law_617 : decode cL_law 617 = .ok (.goto 866, 3) := by decide +kernel
theorem dL_law_620 : decode cL_law 620 = .ok (.aload_n 1, 1) := by decide +kernel
theorem dL_law_621 : decode cL_law 621 = .ok (.aload_n 0, 1) := by decide +kernel
theorem dL_law_622 : decode cL_law 622 = .ok (.iload 4, 2) := by decide +kernel
theorem dL_law_624 : decode cL_law 624 = .ok (.iconst 1, 1) := by decide +kernel
theorem dL_law_625 : decode cL_law 625 = .ok (.iadd, 1) := by decide +kernel
theorem dL_law_626 : decode cL_law 626 = .ok (.iaload, 1) := by decide +kernel
theorem dL_law_627 : decode cL_law 627 = .ok (.aload_n 0, 1) := by decide +kernel
theorem dL_law_628 : decode cL_law 628 = .ok (.iload 4, 2) := by decide +kernel
theorem dL_law_630 : decode cL_law 630 = .ok (.iconst 2, 1) := by decide +kernel
theorem dL_law_631 : decode cL_law 631 = .ok (.iadd, 1) := by decide +kernel
theorem dL_law_632 : decode cL_law 632 = .ok (.iaload, 1) := by decide +kernel
theorem dL_law_633 : decode cL_law 633 = .ok (.aload_n 3, 1) := by decide +kernel
theorem dL_law_634 : decode cL_law 634 = .ok (.invokestatic 110, 3) := by decide +kernel
theorem dL_law_637 : decode cL_law 637 = .ok (.istore 5, 2) := by decide +kernel
theorem dL_law_639 : decode cL_law 639 = .ok (.aload_n 2, 1) := by decide +kernel
theorem dL_law_640 : decode cL_law 640 = .ok (.aload_n 0, 1) := by decide +kernel
theorem dL_law_641 : decode cL_law 641 = .ok (.iload 4, 2) := by decide +kernel
theorem dL_law_643 : decode cL_law 643 = .ok (.iconst 1, 1) := by decide +kernel
theorem dL_law_644 : decode cL_law 644 = .ok (.iadd, 1) := by decide +kernel
theorem dL_law_645 : decode cL_law 645 = .ok (.iaload, 1) := by decide +kernel
theorem dL_law_646 : decode cL_law 646 = .ok (.aload_n 0, 1) := by decide +kernel
theorem dL_law_647 : decode cL_law 647 = .ok (.iload 4, 2) := by decide +kernel
theorem dL_law_649 : decode cL_law 649 = .ok (.iconst 2, 1) := by decide +kernel
theorem dL_law_650 : decode cL_law 650 = .ok (.iadd, 1) := by decide +kernel
theorem dL_law_651 : decode cL_law 651 = .ok (.iaload, 1) := by decide +kernel
theorem dL_law_652 : decode cL_law 652 = .ok (.invokevirtual 112, 3) := by decide +kernel
theorem dL_law_655 : decode cL_law 655 = .ok (.istore 6, 2) := by decide +kernel
theorem dL_law_657 : decode cL_law 657 = .ok (.aload_n 2, 1) := by decide +kernel
theorem dL_law_658 : decode cL_law 658 = .ok (.invokevirtual 87, 3) := by decide +kernel
theorem dL_law_661 : decode cL_law 661 = .ok (.iload 5, 2) := by decide +kernel
theorem dL_law_663 : decode cL_law 663 = .ok (.if_icmp .eq 5, 3) := by decide +kernel
theorem dL_law_666 : decode cL_law 666 = .ok (.iconst 0, 1) := by decide +kernel
theorem dL_law_667 : decode cL_law 667 = .ok (.ireturn, 1) := by decide +kernel
theorem dL_law_668 : decode cL_law 668 = .ok (.iload 5, 2) := by decide +kernel
theorem dL_law_670 : decode cL_law 670 = .ok (.ifCond .ne 15, 3) := by decide +kernel
theorem dL_law_673 : decode cL_law 673 = .ok (.aload_n 3, 1) := by decide +kernel
theorem dL_law_674 : decode cL_law 674 = .ok (.iconst 0, 1) := by decide +kernel
theorem dL_law_675 : decode cL_law 675 = .ok (.laload, 1) := by decide +kernel
theorem dL_law_676 : decode cL_law 676 = .ok (.iload 6, 2) := by decide +kernel
theorem dL_law_678 : decode cL_law 678 = .ok (.i2l, 1) := by decide +kernel
theorem dL_law_679 : decode cL_law 679 = .ok (.lcmp, 1) := by decide +kernel
theorem dL_law_680 : decode cL_law 680 = .ok (.ifCond .eq 5, 3) := by decide +kernel
theorem dL_law_683 : decode cL_law 683 = .ok (.iconst 0, 1) := by decide +kernel
theorem dL_law_684 : decode cL_law 684 = .ok (.ireturn, 1) := by decide +kernel
theorem dL_law_685 : decode cL_law 685 = .ok (.goto 798, 3) := by decide +kernel
theorem dL_law_688 : decode cL_law 688 = .ok (.aload_n 1, 1) := by decide +kernel
theorem dL_law_689 : decode cL_law 689 = .ok (.aload_n 0, 1) := by decide +kernel
theorem dL_law_690 : decode cL_law 690 = .ok (.iload 4, 2) := by decide +kernel
theorem dL_law_692 : decode cL_law 692 = .ok (.iconst 1, 1) := by decide +kernel
theorem dL_law_693 : decode cL_law 693 = .ok (.iadd, 1) := by decide +kernel
theorem dL_law_694 : decode cL_law 694 = .ok (.iaload, 1) := by decide +kernel
theorem dL_law_695 : decode cL_law 695 = .ok (.ifCond .eq 7, 3) := by decide +kernel
theorem dL_law_698 : decode cL_law 698 = .ok (.iconst 1, 1) := by decide +kernel
theorem dL_law_699 : decode cL_law 699 = .ok (.goto 4, 3) := by decide +kernel
theorem dL_law_702 : decode cL_law 702 = .ok (.iconst 0, 1) := by decide +kernel
theorem dL_law_703 : decode cL_law 703 = .ok (.invokevirtual 113, 3) := by decide +kernel
theorem dL_law_706 : decode cL_law 706 = .ok (.aload_n 2, 1) := by decide +kernel
theorem dL_law_707 : decode cL_law 707 = .ok (.aload_n 0, 1) := by decide +kernel
theorem dL_law_708 : decode cL_law 708 = .ok (.iload 4, 2) := by decide +kernel
theorem dL_law_710 : decode cL_law 710 = .ok (.iconst 1, 1) := by decide +kernel
theorem dL_law_711 : decode cL_law 711 = .ok (.iadd, 1) := by decide +kernel
theorem dL_law_712 : decode cL_law 712 = .ok (.iaload, 1) := by decide +kernel
theorem dL_law_713 : decode cL_law 713 = .ok (.ifCond .eq 7, 3) := by decide +kernel
theorem dL_law_716 : decode cL_law 716 = .ok (.iconst 1, 1) := by decide +kernel
theorem dL_law_717 : decode cL_law 717 = .ok (.goto 4, 3) := by decide +kernel
theorem dL_law_720 : decode cL_law 720 = .ok (.iconst 0, 1) := by decide +kernel
theorem dL_law_721 : decode cL_law 721 = .ok (.invokevirtual 117, 3) := by decide +kernel
theorem dL_law_724 : decode cL_law 724 = .ok (.if_icmp .eq 759, 3) := by decide +kernel
theorem dL_law_727 : decode cL_law 727 = .ok (.iconst 0, 1) := by decide +kernel
theorem dL_law_728 : decode cL_law 728 = .ok (.ireturn, 1) := by decide +kernel
theorem dL_law_729 : decode cL_law 729 = .ok (.aload_n 1, 1) := by decide +kernel
theorem dL_law_730 : decode cL_law 730 = .ok (.aload_n 0, 1) := by decide +kernel
theorem dL_law_731 : decode cL_law 731 = .ok (.iload 4, 2) := by decide +kernel
theorem dL_law_733 : decode cL_law 733 = .ok (.iconst 1, 1) := by decide +kernel
theorem dL_law_734 : decode cL_law 734 = .ok (.iadd, 1) := by decide +kernel
theorem dL_law_735 : decode cL_law 735 = .ok (.iaload, 1) := by decide +kernel
theorem dL_law_736 : decode cL_law 736 = .ok (.aload_n 3, 1) := by decide +kernel
theorem dL_law_737 : decode cL_law 737 = .ok (.invokestatic 118, 3) := by decide +kernel
theorem dL_law_740 : decode cL_law 740 = .ok (.istore 5, 2) := by decide +kernel
theorem dL_law_742 : decode cL_law 742 = .ok (.aload_n 2, 1) := by decide +kernel
theorem dL_law_743 : decode cL_law 743 = .ok (.aload_n 0, 1) := by decide +kernel
theorem dL_law_744 : decode cL_law 744 = .ok (.iload 4, 2) := by decide +kernel
theorem dL_law_746 : decode cL_law 746 = .ok (.iconst 1, 1) := by decide +kernel
theorem dL_law_747 : decode cL_law 747 = .ok (.iadd, 1) := by decide +kernel
theorem dL_law_748 : decode cL_law 748 = .ok (.iaload, 1) := by decide +kernel
theorem dL_law_749 : decode cL_law 749 = .ok (.invokevirtual 120, 3) := by decide +kernel
theorem dL_law_752 : decode cL_law 752 = .ok (.istore 6, 2) := by decide +kernel
theorem dL_law_754 : decode cL_law 754 = .ok (.aload_n 2, 1) := by decide +kernel
theorem dL_law_755 : decode cL_law 755 = .ok (.invokevirtual 87, 3) := by decide +kernel
theorem dL_law_758 : decode cL_law 758 = .ok (.iload 5, 2) := by decide +kernel
theorem dL_law_760 : decode cL_law 760 = .ok (.if_icmp .eq 5, 3) := by decide +kernel
theorem dL_law_763 : decode cL_law 763 = .ok (.iconst 0, 1) := by decide +kernel
theorem dL_law_764 : decode cL_law 764 = .ok (.ireturn, 1) := by decide +kernel
theorem dL_law_765 : decode cL_law 765 = .ok (.iload 5, 2) := by decide +kernel
theorem dL_law_767 : decode cL_law 767 = .ok (.ifCond .ne 15, 3) := by decide +kernel
theorem dL_law_770 : decode cL_law 770 = .ok (.aload_n 3, 1) := by decide +kernel
theorem dL_law_771 : decode cL_law 771 = .ok (.iconst 0, 1) := by decide +kernel
theorem dL_law_772 : decode cL_law 772 = .ok (.laload, 1) := by decide +kernel
theorem dL_law_773 : decode cL_law 773 = .ok (.iload 6, 2) := by decide +kernel
theorem dL_law_775 : decode cL_law 775 = .ok (.i2l, 1) := by decide +kernel
theorem dL_law_776 : decode cL_law 776 = .ok (.lcmp, 1) := by decide +kernel
theorem dL_law_777 : decode cL_law 777 = .ok (.ifCond .eq 5, 3) := by decide +kernel
theorem dL_law_780 : decode cL_law 780 = .ok (.iconst 0, 1) := by decide +kernel
theorem dL_law_781 : decode cL_law 781 = .ok (.ireturn, 1) := by decide +kernel
theorem dL_law_782 : decode cL_law 782 = .ok (.goto 701, 3) := by decide +kernel
theorem dL_law_785 : decode cL_law 785 = .ok (.aload_n 1, 1) := by decide +kernel
theorem dL_law_786 : decode cL_law 786 = .ok (.aload_n 0, 1) := by decide +kernel
theorem dL_law_787 : decode cL_law 787 = .ok (.iload 4, 2) := by decide +kernel
theorem dL_law_789 : decode cL_law 789 = .ok (.iconst 1, 1) := by decide +kernel
theorem dL_law_790 : decode cL_law 790 = .ok (.iadd, 1) := by decide +kernel
theorem dL_law_791 : decode cL_law 791 = .ok (.iaload, 1) := by decide +kernel
theorem dL_law_792 : decode cL_law 792 = .ok (.aload_n 3, 1) := by decide +kernel
theorem dL_law_793 : decode cL_law 793 = .ok (.invokestatic 121, 3) := by decide +kernel
theorem dL_law_796 : decode cL_law 796 = .ok (.istore 5, 2) := by decide +kernel
theorem dL_law_798 : decode cL_law 798 = .ok (.aload_n 2, 1) := by decide +kernel
theorem dL_law_799 : decode cL_law 799 = .ok (.aload_n 0, 1) := by decide +kernel
theorem dL_law_800 : decode cL_law 800 = .ok (.iload 4, 2) := by decide +kernel
theorem dL_law_802 : decode cL_law 802 = .ok (.iconst 1, 1) := by decide +kernel
theorem dL_law_803 : decode cL_law 803 = .ok (.iadd, 1) := by decide +kernel
theorem dL_law_804 : decode cL_law 804 = .ok (.iaload, 1) := by decide +kernel
theorem dL_law_805 : decode cL_law 805 = .ok (.invokevirtual 123, 3) := by decide +kernel
theorem dL_law_808 : decode cL_law 808 = .ok (.istore 6, 2) := by decide +kernel
theorem dL_law_810 : decode cL_law 810 = .ok (.aload_n 2, 1) := by decide +kernel
theorem dL_law_811 : decode cL_law 811 = .ok (.invokevirtual 87, 3) := by decide +kernel
theorem dL_law_814 : decode cL_law 814 = .ok (.iload 5, 2) := by decide +kernel
theorem dL_law_816 : decode cL_law 816 = .ok (.if_icmp .eq 5, 3) := by decide +kernel
theorem dL_law_819 : decode cL_law 819 = .ok (.iconst 0, 1) := by decide +kernel
theorem dL_law_820 : decode cL_law 820 = .ok (.ireturn, 1) := by decide +kernel
theorem dL_law_821 : decode cL_law 821 = .ok (.iload 5, 2) := by decide +kernel
theorem dL_law_823 : decode cL_law 823 = .ok (.ifCond .ne 15, 3) := by decide +kernel
theorem dL_law_826 : decode cL_law 826 = .ok (.aload_n 3, 1) := by decide +kernel
theorem dL_law_827 : decode cL_law 827 = .ok (.iconst 0, 1) := by decide +kernel
theorem dL_law_828 : decode cL_law 828 = .ok (.laload, 1) := by decide +kernel
theorem dL_law_829 : decode cL_law 829 = .ok (.iload 6, 2) := by decide +kernel
theorem dL_law_831 : decode cL_law 831 = .ok (.i2l, 1) := by decide +kernel
theorem dL_law_832 : decode cL_law 832 = .ok (.lcmp, 1) := by decide +kernel
theorem dL_law_833 : decode cL_law 833 = .ok (.ifCond .eq 5, 3) := by decide +kernel
theorem dL_law_836 : decode cL_law 836 = .ok (.iconst 0, 1) := by decide +kernel
theorem dL_law_837 : decode cL_law 837 = .ok (.ireturn, 1) := by decide +kernel
theorem dL_law_838 : decode cL_law 838 = .ok (.goto 645, 3) := by decide +kernel
theorem dL_law_841 : decode cL_law 841 = .ok (.aload_n 1, 1) := by decide +kernel
theorem dL_law_842 : decode cL_law 842 = .ok (.invokevirtual 124, 3) := by decide +kernel
theorem dL_law_845 : decode cL_law 845 = .ok (.aload_n 2, 1) := by decide +kernel
theorem dL_law_846 : decode cL_law 846 = .ok (.invokevirtual 127, 3) := by decide +kernel
theorem dL_law_849 : decode cL_law 849 = .ok (.if_icmp .eq 634, 3) := by decide +kernel
theorem dL_law_852 : decode cL_law 852 = .ok (.iconst 0, 1) := by decide +kernel
theorem dL_law_853 : decode cL_law 853 = .ok (.ireturn, 1) := by decide +kernel
theorem dL_law_854 : decode cL_law 854 = .ok (.aload_n 1, 1) := by decide +kernel
theorem dL_law_855 : decode cL_law 855 = .ok (.invokevirtual 128, 3) := by decide +kernel
theorem dL_law_858 : decode cL_law 858 = .ok (.aload_n 2, 1) := by decide +kernel
theorem dL_law_859 : decode cL_law 859 = .ok (.invokevirtual 131, 3) := by decide +kernel
theorem dL_law_862 : decode cL_law 862 = .ok (.if_icmp .eq 621, 3) := by decide +kernel
theorem dL_law_865 : decode cL_law 865 = .ok (.iconst 0, 1) := by decide +kernel
theorem dL_law_866 : decode cL_law 866 = .ok (.ireturn, 1) := by decide +kernel
theorem dL_law_867 : decode cL_law 867 = .ok (.aload_n 1, 1) := by decide +kernel
theorem dL_law_868 : decode cL_law 868 = .ok (.aload_n 3, 1) := by decide +kernel
theorem dL_law_869 : decode cL_law 869 = .ok (.invokestatic 132, 3) := by decide +kernel
theorem dL_law_872 : decode cL_law 872 = .ok (.istore 5, 2) := by decide +kernel
theorem dL_law_874 : decode cL_law 874 = .ok (.aload_n 2, 1) := by decide +kernel
theorem dL_law_875 : decode cL_law 875 = .ok (.invokevirtual 135, 3) := by decide +kernel
theorem dL_law_878 : decode cL_law 878 = .ok (.istore 6, 2) := by decide +kernel
theorem dL_law_880 : decode cL_law 880 = .ok (.aload_n 2, 1) := by decide +kernel
theorem dL_law_881 : decode cL_law 881 = .ok (.invokevirtual 87, 3) := by decide +kernel
theorem dL_law_884 : decode cL_law 884 = .ok (.iload 5, 2) := by decide +kernel
theorem dL_law_886 : decode cL_law 886 = .ok (.if_icmp .eq 5, 3) := by decide +kernel
theorem dL_law_889 : decode cL_law 889 = .ok (.iconst 0, 1) := by decide +kernel
theorem dL_law_890 : decode cL_law 890 = .ok (.ireturn, 1) := by decide +kernel
theorem dL_law_891 : decode cL_law 891 = .ok (.iload 5, 2) := by decide +kernel
theorem dL_law_893 : decode cL_law 893 = .ok (.ifCond .ne 15, 3) := by decide +kernel
theorem dL_law_896 : decode cL_law 896 = .ok (.aload_n 3, 1) := by decide +kernel
theorem dL_law_897 : decode cL_law 897 = .ok (.iconst 0, 1) := by decide +kernel
theorem dL_law_898 : decode cL_law 898 = .ok (.laload, 1) := by decide +kernel
theorem dL_law_899 : decode cL_law 899 = .ok (.iload 6, 2) := by decide +kernel
theorem dL_law_901 : decode cL_law 901 = .ok (.i2l, 1) := by decide +kernel
theorem dL_law_902 : decode cL_law 902 = .ok (.lcmp, 1) := by decide +kernel
theorem dL_law_903 : decode cL_law 903 = .ok (.ifCond .eq 5, 3) := by decide +kernel
theorem dL_law_906 : decode cL_law 906 = .ok (.iconst 0, 1) := by decide +kernel
theorem dL_law_907 : decode cL_law 907 = .ok (.ireturn, 1) := by decide +kernel
theorem dL_law_908 : decode cL_law 908 = .ok (.goto 575, 3) := by decide +kernel
theorem dL_law_911 : decode cL_law 911 = .ok (.aload_n 1, 1) := by decide +kernel
theorem dL_law_912 : decode cL_law 912 = .ok (.aload_n 3, 1) := by decide +kernel
theorem dL_law_913 : decode cL_law 913 = .ok (.invokestatic 136, 3) := by decide +kernel
theorem dL_law_916 : decode cL_law 916 = .ok (.istore 5, 2) := by decide +kernel
theorem dL_law_918 : decode cL_law 918 = .ok (.aload_n 2, 1) := by decide +kernel
theorem dL_law_919 : decode cL_law 919 = .ok (.invokevirtual 138, 3) := by decide +kernel
theorem dL_law_922 : decode cL_law 922 = .ok (.istore 6, 2) := by decide +kernel
theorem dL_law_924 : decode cL_law 924 = .ok (.aload_n 2, 1) := by decide +kernel
theorem dL_law_925 : decode cL_law 925 = .ok (.invokevirtual 87, 3) := by decide +kernel
theorem dL_law_928 : decode cL_law 928 = .ok (.iload 5, 2) := by decide +kernel
theorem dL_law_930 : decode cL_law 930 = .ok (.if_icmp .eq 5, 3) := by decide +kernel
theorem dL_law_933 : decode cL_law 933 = .ok (.iconst 0, 1) := by decide +kernel
theorem dL_law_934 : decode cL_law 934 = .ok (.ireturn, 1) := by decide +kernel
theorem dL_law_935 : decode cL_law 935 = .ok (.iload 5, 2) := by decide +kernel
theorem dL_law_937 : decode cL_law 937 = .ok (.ifCond .ne 15, 3) := by decide +kernel
theorem dL_law_940 : decode cL_law 940 = .ok (.aload_n 3, 1) := by decide +kernel
theorem dL_law_941 : decode cL_law 941 = .ok (.iconst 0, 1) := by decide +kernel
theorem dL_law_942 : decode cL_law 942 = .ok (.laload, 1) := by decide +kernel
theorem dL_law_943 : decode cL_law 943 = .ok (.iload 6, 2) := by decide +kernel
theorem dL_law_945 : decode cL_law 945 = .ok (.i2l, 1) := by decide +kernel
theorem dL_law_946 : decode cL_law 946 = .ok (.lcmp, 1) := by decide +kernel
theorem dL_law_947 : decode cL_law 947 = .ok (.ifCond .eq 5, 3) := by decide +kernel
theorem dL_law_950 : decode cL_law 950 = .ok (.iconst 0, 1) := by decide +kernel
theorem dL_law_951 : decode cL_law 951 = .ok (.ireturn, 1) := by decide +kernel
theorem dL_law_952 : decode cL_law 952 = .ok (.goto 531, 3) := by decide +kernel
theorem dL_law_955 : decode cL_law 955 = .ok (.aload_n 1, 1) := by decide +kernel
theorem dL_law_956 : decode cL_law 956 = .ok (.aload_n 0, 1) := by decide +kernel
theorem dL_law_957 : decode cL_law 957 = .ok (.iload 4, 2) := by decide +kernel
theorem dL_law_959 : decode cL_law 959 = .ok (.iconst 1, 1) := by decide +kernel
theorem dL_law_960 : decode cL_law 960 = .ok (.iadd, 1) := by decide +kernel
theorem dL_law_961 : decode cL_law 961 = .ok (.iaload, 1) := by decide +kernel
theorem dL_law_962 : decode cL_law 962 = .ok (.aload_n 0, 1) := by decide +kernel
theorem dL_law_963 : decode cL_law 963 = .ok (.iload 4, 2) := by decide +kernel
theorem dL_law_965 : decode cL_law 965 = .ok (.iconst 2, 1) := by decide +kernel
theorem dL_law_966 : decode cL_law 966 = .ok (.iadd, 1) := by decide +kernel
theorem dL_law_967 : decode cL_law 967 = .ok (.iaload, 1) := by decide +kernel
theorem dL_law_968 : decode cL_law 968 = .ok (.aload_n 3, 1) := by decide +kernel
theorem dL_law_969 : decode cL_law 969 = .ok (.invokestatic 139, 3) := by decide +kernel
theorem dL_law_972 : decode cL_law 972 = .ok (.istore 5, 2) := by decide +kernel
theorem dL_law_974 : decode cL_law 974 = .ok (.aload_n 2, 1) := by decide +kernel
theorem dL_law_975 : decode cL_law 975 = .ok (.aload_n 0, 1) := by decide +kernel
theorem dL_law_976 : decode cL_law 976 = .ok (.iload 4, 2) := by decide +kernel
theorem dL_law_978 : decode cL_law 978 = .ok (.iconst 1, 1) := by decide +kernel
theorem dL_law_979 : decode cL_law 979 = .ok (.iadd, 1) := by decide +kernel
theorem dL_law_980 : decode cL_law 980 = .ok (.iaload, 1) := by decide +kernel
theorem dL_law_981 : decode cL_law 981 = .ok (.aload_n 0, 1) := by decide +kernel
theorem dL_law_982 : decode cL_law 982 = .ok (.iload 4, 2) := by decide +kernel
theorem dL_law_984 : decode cL_law 984 = .ok (.iconst 2, 1) := by decide +kernel
theorem dL_law_985 : decode cL_law 985 = .ok (.iadd, 1) := by decide +kernel
theorem dL_law_986 : decode cL_law 986 = .ok (.iaload, 1) := by decide +kernel
theorem dL_law_987 : decode cL_law 987 = .ok (.invokevirtual 141, 3) := by decide +kernel
theorem dL_law_990 : decode cL_law 990 = .ok (.istore 6, 2) := by decide +kernel
theorem dL_law_992 : decode cL_law 992 = .ok (.aload_n 2, 1) := by decide +kernel
theorem dL_law_993 : decode cL_law 993 = .ok (.invokevirtual 87, 3) := by decide +kernel
theorem dL_law_996 : decode cL_law 996 = .ok (.iload 5, 2) := by decide +kernel
theorem dL_law_998 : decode cL_law 998 = .ok (.if_icmp .eq 5, 3) := by decide +kernel
theorem dL_law_1001 : decode cL_law 1001 = .ok (.iconst 0, 1) := by decide +kernel
theorem dL_law_1002 : decode cL_law 1002 = .ok (.ireturn, 1) := by decide +kernel
theorem dL_law_1003 : decode cL_law 1003 = .ok (.iload 5, 2) := by decide +kernel
theorem dL_law_1005 : decode cL_law 1005 = .ok (.ifCond .ne 15, 3) := by decide +kernel
theorem dL_law_1008 : decode cL_law 1008 = .ok (.aload_n 3, 1) := by decide +kernel
theorem dL_law_1009 : decode cL_law 1009 = .ok (.iconst 0, 1) := by decide +kernel
theorem dL_law_1010 : decode cL_law 1010 = .ok (.laload, 1) := by decide +kernel
theorem dL_law_1011 : decode cL_law 1011 = .ok (.iload 6, 2) := by decide +kernel
theorem dL_law_1013 : decode cL_law 1013 = .ok (.i2l, 1) := by decide +kernel
theorem dL_law_1014 : decode cL_law 1014 = .ok (.lcmp, 1) := by decide +kernel
theorem dL_law_1015 : decode cL_law 1015 = .ok (.ifCond .eq 5, 3) := by decide +kernel
theorem dL_law_1018 : decode cL_law 1018 = .ok (.iconst 0, 1) := by decide +kernel
theorem dL_law_1019 : decode cL_law 1019 = .ok (.ireturn, 1) := by decide +kernel
theorem dL_law_1020 : decode cL_law 1020 = .ok (.goto 463, 3) := by decide +kernel
theorem dL_law_1023 : decode cL_law 1023 = .ok (.aload_n 1, 1) := by decide +kernel
theorem dL_law_1024 : decode cL_law 1024 = .ok (.aload_n 0, 1) := by decide +kernel
theorem dL_law_1025 : decode cL_law 1025 = .ok (.iload 4, 2) := by decide +kernel
theorem dL_law_1027 : decode cL_law 1027 = .ok (.iconst 1, 1) := by decide +kernel
theorem dL_law_1028 : decode cL_law 1028 = .ok (.iadd, 1) := by decide +kernel
theorem dL_law_1029 : decode cL_law 1029 = .ok (.iaload, 1) := by decide +kernel
theorem dL_law_1030 : decode cL_law 1030 = .ok (.aload_n 0, 1) := by decide +kernel
theorem dL_law_1031 : decode cL_law 1031 = .ok (.iload 4, 2) := by decide +kernel
theorem dL_law_1033 : decode cL_law 1033 = .ok (.iconst 2, 1) := by decide +kernel
theorem dL_law_1034 : decode cL_law 1034 = .ok (.iadd, 1) := by decide +kernel
theorem dL_law_1035 : decode cL_law 1035 = .ok (.iaload, 1) := by decide +kernel
theorem dL_law_1036 : decode cL_law 1036 = .ok (.aload_n 3, 1) := by decide +kernel
theorem dL_law_1037 : decode cL_law 1037 = .ok (.invokestatic 142, 3) := by decide +kernel
theorem dL_law_1040 : decode cL_law 1040 = .ok (.istore 5, 2) := by decide +kernel
theorem dL_law_1042 : decode cL_law 1042 = .ok (.aload_n 2, 1) := by decide +kernel
theorem dL_law_1043 : decode cL_law 1043 = .ok (.aload_n 0, 1) := by decide +kernel
theorem dL_law_1044 : decode cL_law 1044 = .ok (.iload 4, 2) := by decide +kernel
theorem dL_law_1046 : decode cL_law 1046 = .ok (.iconst 1, 1) := by decide +kernel
theorem dL_law_1047 : decode cL_law 1047 = .ok (.iadd, 1) := by decide +kernel
theorem dL_law_1048 : decode cL_law 1048 = .ok (.iaload, 1) := by decide +kernel
theorem dL_law_1049 : decode cL_law 1049 = .ok (.aload_n 0, 1) := by decide +kernel
theorem dL_law_1050 : decode cL_law 1050 = .ok (.iload 4, 2) := by decide +kernel
theorem dL_law_1052 : decode cL_law 1052 = .ok (.iconst 2, 1) := by decide +kernel
theorem dL_law_1053 : decode cL_law 1053 = .ok (.iadd, 1) := by decide +kernel
theorem dL_law_1054 : decode cL_law 1054 = .ok (.iaload, 1) := by decide +kernel
theorem dL_law_1055 : decode cL_law 1055 = .ok (.invokevirtual 144, 3) := by decide +kernel
theorem dL_law_1058 : decode cL_law 1058 = .ok (.istore 6, 2) := by decide +kernel
theorem dL_law_1060 : decode cL_law 1060 = .ok (.aload_n 2, 1) := by decide +kernel
theorem dL_law_1061 : decode cL_law 1061 = .ok (.invokevirtual 87, 3) := by decide +kernel
theorem dL_law_1064 : decode cL_law 1064 = .ok (.iload 5, 2) := by decide +kernel
theorem dL_law_1066 : decode cL_law 1066 = .ok (.if_icmp .eq 5, 3) := by decide +kernel
theorem dL_law_1069 : decode cL_law 1069 = .ok (.iconst 0, 1) := by decide +kernel
theorem dL_law_1070 : decode cL_law 1070 = .ok (.ireturn, 1) := by decide +kernel
theorem dL_law_1071 : decode cL_law 1071 = .ok (.iload 5, 2) := by decide +kernel
theorem dL_law_1073 : decode cL_law 1073 = .ok (.ifCond .ne 22, 3) := by decide +kernel
theorem dL_law_1076 : decode cL_law 1076 = .ok (.aload_n 3, 1) := by decide +kernel
theorem dL_law_1077 : decode cL_law 1077 = .ok (.iconst 0, 1) := by decide +kernel
theorem dL_law_1078 : decode cL_law 1078 = .ok (.laload, 1) := by decide +kernel
theorem dL_law_1079 : decode cL_law 1079 = .ok (.iload 6, 2) := by decide +kernel
theorem dL_law_1081 : decode cL_law 1081 = .ok (.ifCond .eq 7, 3) := by decide +kernel
theorem dL_law_1084 : decode cL_law 1084 = .ok (.lconst 1, 1) := by decide +kernel
theorem dL_law_1085 : decode cL_law 1085 = .ok (.goto 4, 3) := by decide +kernel
theorem dL_law_1088 : decode cL_law 1088 = .ok (.lconst 0, 1) := by decide +kernel
theorem dL_law_1089 : decode cL_law 1089 = .ok (.lcmp, 1) := by decide +kernel
theorem dL_law_1090 : decode cL_law 1090 = .ok (.ifCond .eq 5, 3) := by decide +kernel
theorem dL_law_1093 : decode cL_law 1093 = .ok (.iconst 0, 1) := by decide +kernel
theorem dL_law_1094 : decode cL_law 1094 = .ok (.ireturn, 1) := by decide +kernel
theorem dL_law_1095 : decode cL_law 1095 = .ok (.goto 388, 3) := by decide +kernel
theorem dL_law_1098 : decode cL_law 1098 = .ok (.aload_n 1, 1) := by decide +kernel
theorem dL_law_1099 : decode cL_law 1099 = .ok (.aload_n 0, 1) := by decide +kernel
theorem dL_law_1100 : decode cL_law 1100 = .ok (.iload 4, 2) := by decide +kernel
theorem dL_law_1102 : decode cL_law 1102 = .ok (.iconst 1, 1) := by decide +kernel
theorem dL_law_1103 : decode cL_law 1103 = .ok (.iadd, 1) := by decide +kernel
theorem dL_law_1104 : decode cL_law 1104 = .ok (.iaload, 1) := by decide +kernel
theorem dL_law_1105 : decode cL_law 1105 = .ok (.aload_n 0, 1) := by decide +kernel
theorem dL_law_1106 : decode cL_law 1106 = .ok (.iload 4, 2) := by decide +kernel
theorem dL_law_1108 : decode cL_law 1108 = .ok (.iconst 2, 1) := by decide +kernel
theorem dL_law_1109 : decode cL_law 1109 = .ok (.iadd, 1) := by decide +kernel
theorem dL_law_1110 : decode cL_law 1110 = .ok (.iaload, 1) := by decide +kernel
theorem dL_law_1111 : decode cL_law 1111 = .ok (.aload_n 3, 1) := by decide +kernel
theorem dL_law_1112 : decode cL_law 1112 = .ok (.invokestatic 145, 3) := by decide +kernel
theorem dL_law_1115 : decode cL_law 1115 = .ok (.istore 5, 2) := by decide +kernel
theorem dL_law_1117 : decode cL_law 1117 = .ok (.aload_n 2, 1) := by decide +kernel
theorem dL_law_1118 : decode cL_law 1118 = .ok (.aload_n 0, 1) := by decide +kernel
theorem dL_law_1119 : decode cL_law 1119 = .ok (.iload 4, 2) := by decide +kernel
theorem dL_law_1121 : decode cL_law 1121 = .ok (.iconst 1, 1) := by decide +kernel
theorem dL_law_1122 : decode cL_law 1122 = .ok (.iadd, 1) := by decide +kernel
theorem dL_law_1123 : decode cL_law 1123 = .ok (.iaload, 1) := by decide +kernel
theorem dL_law_1124 : decode cL_law 1124 = .ok (.aload_n 0, 1) := by decide +kernel
theorem dL_law_1125 : decode cL_law 1125 = .ok (.iload 4, 2) := by decide +kernel
theorem dL_law_1127 : decode cL_law 1127 = .ok (.iconst 2, 1) := by decide +kernel
theorem dL_law_1128 : decode cL_law 1128 = .ok (.iadd, 1) := by decide +kernel
theorem dL_law_1129 : decode cL_law 1129 = .ok (.iaload, 1) := by decide +kernel
theorem dL_law_1130 : decode cL_law 1130 = .ok (.invokevirtual 147, 3) := by decide +kernel
theorem dL_law_1133 : decode cL_law 1133 = .ok (.istore 6, 2) := by decide +kernel
theorem dL_law_1135 : decode cL_law 1135 = .ok (.aload_n 2, 1) := by decide +kernel
theorem dL_law_1136 : decode cL_law 1136 = .ok (.invokevirtual 87, 3) := by decide +kernel
theorem dL_law_1139 : decode cL_law 1139 = .ok (.iload 5, 2) := by decide +kernel
theorem dL_law_1141 : decode cL_law 1141 = .ok (.if_icmp .eq 5, 3) := by decide +kernel
theorem dL_law_1144 : decode cL_law 1144 = .ok (.iconst 0, 1) := by decide +kernel
theorem dL_law_1145 : decode cL_law 1145 = .ok (.ireturn, 1) := by decide +kernel
theorem dL_law_1146 : decode cL_law 1146 = .ok (.iload 5, 2) := by decide +kernel
theorem dL_law_1148 : decode cL_law 1148 = .ok (.ifCond .ne 15, 3) := by decide +kernel
theorem dL_law_1151 : decode cL_law 1151 = .ok (.aload_n 3, 1) := by decide +kernel
theorem dL_law_1152 : decode cL_law 1152 = .ok (.iconst 0, 1) := by decide +kernel
theorem dL_law_1153 : decode cL_law 1153 = .ok (.laload, 1) := by decide +kernel
theorem dL_law_1154 : decode cL_law 1154 = .ok (.iload 6, 2) := by decide +kernel
theorem dL_law_1156 : decode cL_law 1156 = .ok (.i2l, 1) := by decide +kernel
theorem dL_law_1157 : decode cL_law 1157 = .ok (.lcmp, 1) := by decide +kernel
theorem dL_law_1158 : decode cL_law 1158 = .ok (.ifCond .eq 5, 3) := by decide +kernel
theorem dL_law_1161 : decode cL_law 1161 = .ok (.iconst 0, 1) := by decide +kernel
theorem dL_law_1162 : decode cL_law 1162 = .ok (.ireturn, 1) := by decide +kernel
theorem dL_law_1163 : decode cL_law 1163 = .ok (.goto 320, 3) := by decide +kernel
theorem dL_law_1166 : decode cL_law 1166 = .ok (.aload_n 1, 1) := by decide +kernel
theorem dL_law_1167 : decode cL_law 1167 = .ok (.aload_n 0, 1) := by decide +kernel
theorem dL_law_1168 : decode cL_law 1168 = .ok (.iload 4, 2) := by decide +kernel
theorem dL_law_1170 : decode cL_law 1170 = .ok (.iconst 1, 1) := by decide +kernel
theorem dL_law_1171 : decode cL_law 1171 = .ok (.iadd, 1) := by decide +kernel
theorem dL_law_1172 : decode cL_law 1172 = .ok (.iaload, 1) := by decide +kernel
theorem dL_law_1173 : decode cL_law 1173 = .ok (.aload_n 3, 1) := by decide +kernel
theorem dL_law_1174 : decode cL_law 1174 = .ok (.invokestatic 148, 3) := by decide +kernel
theorem dL_law_1177 : decode cL_law 1177 = .ok (.istore 5, 2) := by decide +kernel
theorem dL_law_1179 : decode cL_law 1179 = .ok (.aload_n 2, 1) := by decide +kernel
theorem dL_law_1180 : decode cL_law 1180 = .ok (.aload_n 0, 1) := by decide +kernel
theorem dL_law_1181 : decode cL_law 1181 = .ok (.iload 4, 2) := by decide +kernel
theorem dL_law_1183 : decode cL_law 1183 = .ok (.iconst 1, 1) := by decide +kernel
theorem dL_law_1184 : decode cL_law 1184 = .ok (.iadd, 1) := by decide +kernel
theorem dL_law_1185 : decode cL_law 1185 = .ok (.iaload, 1) := by decide +kernel
theorem dL_law_1186 : decode cL_law 1186 = .ok (.invokevirtual 150, 3) := by decide +kernel
theorem dL_law_1189 : decode cL_law 1189 = .ok (.istore 6, 2) := by decide +kernel
theorem dL_law_1191 : decode cL_law 1191 = .ok (.aload_n 2, 1) := by decide +kernel
theorem dL_law_1192 : decode cL_law 1192 = .ok (.invokevirtual 87, 3) := by decide +kernel
theorem dL_law_1195 : decode cL_law 1195 = .ok (.iload 5, 2) := by decide +kernel
theorem dL_law_1197 : decode cL_law 1197 = .ok (.if_icmp .eq 5, 3) := by decide +kernel
theorem dL_law_1200 : decode cL_law 1200 = .ok (.iconst 0, 1) := by decide +kernel
theorem dL_law_1201 : decode cL_law 1201 = .ok (.ireturn, 1) := by decide +kernel
theorem dL_law_1202 : decode cL_law 1202 = .ok (.iload 5, 2) := by decide +kernel
theorem dL_law_1204 : decode cL_law 1204 = .ok (.ifCond .ne 15, 3) := by decide +kernel
theorem dL_law_1207 : decode cL_law 1207 = .ok (.aload_n 3, 1) := by decide +kernel
theorem dL_law_1208 : decode cL_law 1208 = .ok (.iconst 0, 1) := by decide +kernel
theorem dL_law_1209 : decode cL_law 1209 = .ok (.laload, 1) := by decide +kernel
theorem dL_law_1210 : decode cL_law 1210 = .ok (.iload 6, 2) := by decide +kernel
theorem dL_law_1212 : decode cL_law 1212 = .ok (.i2l, 1) := by decide +kernel
theorem dL_law_1213 : decode cL_law 1213 = .ok (.lcmp, 1) := by decide +kernel
theorem dL_law_1214 : decode cL_law 1214 = .ok (.ifCond .eq 5, 3) := by decide +kernel
theorem dL_law_1217 : decode cL_law 1217 = .ok (.iconst 0, 1) := by decide +kernel
theorem dL_law_1218 : decode cL_law 1218 = .ok (.ireturn, 1) := by decide +kernel
theorem dL_law_1219 : decode cL_law 1219 = .ok (.goto 264, 3) := by decide +kernel
theorem dL_law_1222 : decode cL_law 1222 = .ok (.aload_n 1, 1) := by decide +kernel
theorem dL_law_1223 : decode cL_law 1223 = .ok (.aload_n 0, 1) := by decide +kernel
theorem dL_law_1224 : decode cL_law 1224 = .ok (.iload 4, 2) := by decide +kernel
theorem dL_law_1226 : decode cL_law 1226 = .ok (.iconst 1, 1) := by decide +kernel
theorem dL_law_1227 : decode cL_law 1227 = .ok (.iadd, 1) := by decide +kernel
theorem dL_law_1228 : decode cL_law 1228 = .ok (.iaload, 1) := by decide +kernel
theorem dL_law_1229 : decode cL_law 1229 = .ok (.aload_n 3, 1) := by decide +kernel
theorem dL_law_1230 : decode cL_law 1230 = .ok (.invokestatic 151, 3) := by decide +kernel
theorem dL_law_1233 : decode cL_law 1233 = .ok (.istore 5, 2) := by decide +kernel
theorem dL_law_1235 : decode cL_law 1235 = .ok (.aload_n 2, 1) := by decide +kernel
theorem dL_law_1236 : decode cL_law 1236 = .ok (.aload_n 0, 1) := by decide +kernel
theorem dL_law_1237 : decode cL_law 1237 = .ok (.iload 4, 2) := by decide +kernel
theorem dL_law_1239 : decode cL_law 1239 = .ok (.iconst 1, 1) := by decide +kernel
theorem dL_law_1240 : decode cL_law 1240 = .ok (.iadd, 1) := by decide +kernel
theorem dL_law_1241 : decode cL_law 1241 = .ok (.iaload, 1) := by decide +kernel
theorem dL_law_1242 : decode cL_law 1242 = .ok (.invokevirtual 153, 3) := by decide +kernel
theorem dL_law_1245 : decode cL_law 1245 = .ok (.istore 6, 2) := by decide +kernel
theorem dL_law_1247 : decode cL_law 1247 = .ok (.aload_n 2, 1) := by decide +kernel
theorem dL_law_1248 : decode cL_law 1248 = .ok (.invokevirtual 87, 3) := by decide +kernel
theorem dL_law_1251 : decode cL_law 1251 = .ok (.iload 5, 2) := by decide +kernel
theorem dL_law_1253 : decode cL_law 1253 = .ok (.if_icmp .eq 5, 3) := by decide +kernel
theorem dL_law_1256 : decode cL_law 1256 = .ok (.iconst 0, 1) := by decide +kernel
theorem dL_law_1257 : decode cL_law 1257 = .ok (.ireturn, 1) := by decide +kernel
theorem dL_law_1258 : decode cL_law 1258 = .ok (.iload 5, 2) := by decide +kernel
theorem dL_law_1260 : decode cL_law 1260 = .ok (.ifCond .ne 15, 3) := by decide +kernel
theorem dL_law_1263 : decode cL_law 1263 = .ok (.aload_n 3, 1) := by decide +kernel
theorem dL_law_1264 : decode cL_law 1264 = .ok (.iconst 0, 1) := by decide +kernel
theorem dL_law_1265 : decode cL_law 1265 = .ok (.laload, 1) := by decide +kernel
theorem dL_law_1266 : decode cL_law 1266 = .ok (.iload 6, 2) := by decide +kernel
theorem dL_law_1268 : decode cL_law 1268 = .ok (.i2l, 1) := by decide +kernel
theorem dL_law_1269 : decode cL_law 1269 = .ok (.lcmp, 1) := by decide +kernel
theorem dL_law_1270 : decode cL_law 1270 = .ok (.ifCond .eq 5, 3) := by decide +kernel
theorem dL_law_1273 : decode cL_law 1273 = .ok (.iconst 0, 1) := by decide +kernel
theorem dL_law_1274 : decode cL_law 1274 = .ok (.ireturn, 1) := by decide +kernel
theorem dL_law_1275 : decode cL_law 1275 = .ok (.goto 208, 3) := by decide +kernel
theorem dL_law_1278 : decode cL_law 1278 = .ok (.aload_n 1, 1) := by decide +kernel
theorem dL_law_1279 : decode cL_law 1279 = .ok (.aload_n 0, 1) := by decide +kernel
theorem dL_law_1280 : decode cL_law 1280 = .ok (.iload 4, 2) := by decide +kernel
theorem dL_law_1282 : decode cL_law 1282 = .ok (.iconst 1, 1) := by decide +kernel
theorem dL_law_1283 : decode cL_law 1283 = .ok (.iadd, 1) := by decide +kernel
theorem dL_law_1284 : decode cL_law 1284 = .ok (.iaload, 1) := by decide +kernel
theorem dL_law_1285 : decode cL_law 1285 = .ok (.aload_n 0, 1) := by decide +kernel
theorem dL_law_1286 : decode cL_law 1286 = .ok (.iload 4, 2) := by decide +kernel
theorem dL_law_1288 : decode cL_law 1288 = .ok (.iconst 2, 1) := by decide +kernel
theorem dL_law_1289 : decode cL_law 1289 = .ok (.iadd, 1) := by decide +kernel
theorem dL_law_1290 : decode cL_law 1290 = .ok (.iaload, 1) := by decide +kernel
theorem dL_law_1291 : decode cL_law 1291 = .ok (.aload_n 3, 1) := by decide +kernel
theorem dL_law_1292 : decode cL_law 1292 = .ok (.invokestatic 154, 3) := by decide +kernel
theorem dL_law_1295 : decode cL_law 1295 = .ok (.istore 5, 2) := by decide +kernel
theorem dL_law_1297 : decode cL_law 1297 = .ok (.aload_n 2, 1) := by decide +kernel
theorem dL_law_1298 : decode cL_law 1298 = .ok (.aload_n 0, 1) := by decide +kernel
theorem dL_law_1299 : decode cL_law 1299 = .ok (.iload 4, 2) := by decide +kernel
theorem dL_law_1301 : decode cL_law 1301 = .ok (.iconst 1, 1) := by decide +kernel
theorem dL_law_1302 : decode cL_law 1302 = .ok (.iadd, 1) := by decide +kernel
theorem dL_law_1303 : decode cL_law 1303 = .ok (.iaload, 1) := by decide +kernel
theorem dL_law_1304 : decode cL_law 1304 = .ok (.aload_n 0, 1) := by decide +kernel
theorem dL_law_1305 : decode cL_law 1305 = .ok (.iload 4, 2) := by decide +kernel
theorem dL_law_1307 : decode cL_law 1307 = .ok (.iconst 2, 1) := by decide +kernel
theorem dL_law_1308 : decode cL_law 1308 = .ok (.iadd, 1) := by decide +kernel
theorem dL_law_1309 : decode cL_law 1309 = .ok (.iaload, 1) := by decide +kernel
theorem dL_law_1310 : decode cL_law 1310 = .ok (.invokevirtual 156, 3) := by decide +kernel
theorem dL_law_1313 : decode cL_law 1313 = .ok (.istore 6, 2) := by decide +kernel
theorem dL_law_1315 : decode cL_law 1315 = .ok (.aload_n 2, 1) := by decide +kernel
theorem dL_law_1316 : decode cL_law 1316 = .ok (.invokevirtual 87, 3) := by decide +kernel
theorem dL_law_1319 : decode cL_law 1319 = .ok (.iload 5, 2) := by decide +kernel
theorem dL_law_1321 : decode cL_law 1321 = .ok (.if_icmp .eq 5, 3) := by decide +kernel
theorem dL_law_1324 : decode cL_law 1324 = .ok (.iconst 0, 1) := by decide +kernel
theorem dL_law_1325 : decode cL_law 1325 = .ok (.ireturn, 1) := by decide +kernel
theorem dL_law_1326 : decode cL_law 1326 = .ok (.iload 5, 2) := by decide +kernel
theorem dL_law_1328 : decode cL_law 1328 = .ok (.ifCond .ne 15, 3) := by decide +kernel
theorem dL_law_1331 : decode cL_law 1331 = .ok (.aload_n 3, 1) := by decide +kernel
theorem dL_law_1332 : decode cL_law 1332 = .ok (.iconst 0, 1) := by decide +kernel
theorem dL_law_1333 : decode cL_law 1333 = .ok (.laload, 1) := by decide +kernel
theorem dL_law_1334 : decode cL_law 1334 = .ok (.iload 6, 2) := by decide +kernel
theorem dL_law_1336 : decode cL_law 1336 = .ok (.i2l, 1) := by decide +kernel
theorem dL_law_1337 : decode cL_law 1337 = .ok (.lcmp, 1) := by decide +kernel
theorem dL_law_1338 : decode cL_law 1338 = .ok (.ifCond .eq 5, 3) := by decide +kernel
theorem dL_law_1341 : decode cL_law 1341 = .ok (.iconst 0, 1) := by decide +kernel
theorem dL_law_1342 : decode cL_law 1342 = .ok (.ireturn, 1) := by decide +kernel
theorem dL_law_1343 : decode cL_law 1343 = .ok (.goto 140, 3) := by decide +kernel
theorem dL_law_1346 : decode cL_law 1346 = .ok (.aload_n 1, 1) := by decide +kernel
theorem dL_law_1347 : decode cL_law 1347 = .ok (.aload_n 0, 1) := by decide +kernel
theorem dL_law_1348 : decode cL_law 1348 = .ok (.iload 4, 2) := by decide +kernel
theorem dL_law_1350 : decode cL_law 1350 = .ok (.iconst 1, 1) := by decide +kernel
theorem dL_law_1351 : decode cL_law 1351 = .ok (.iadd, 1) := by decide +kernel
theorem dL_law_1352 : decode cL_law 1352 = .ok (.iaload, 1) := by decide +kernel
theorem dL_law_1353 : decode cL_law 1353 = .ok (.aload_n 3, 1) := by decide +kernel
theorem dL_law_1354 : decode cL_law 1354 = .ok (.invokestatic 157, 3) := by decide +kernel
theorem dL_law_1357 : decode cL_law 1357 = .ok (.istore 5, 2) := by decide +kernel
theorem dL_law_1359 : decode cL_law 1359 = .ok (.aload_n 2, 1) := by decide +kernel
theorem dL_law_1360 : decode cL_law 1360 = .ok (.aload_n 0, 1) := by decide +kernel
theorem dL_law_1361 : decode cL_law 1361 = .ok (.iload 4, 2) := by decide +kernel
theorem dL_law_1363 : decode cL_law 1363 = .ok (.iconst 1, 1) := by decide +kernel
theorem dL_law_1364 : decode cL_law 1364 = .ok (.iadd, 1) := by decide +kernel
theorem dL_law_1365 : decode cL_law 1365 = .ok (.iaload, 1) := by decide +kernel
theorem dL_law_1366 : decode cL_law 1366 = .ok (.invokevirtual 159, 3) := by decide +kernel
theorem dL_law_1369 : decode cL_law 1369 = .ok (.istore 6, 2) := by decide +kernel
theorem dL_law_1371 : decode cL_law 1371 = .ok (.aload_n 2, 1) := by decide +kernel
theorem dL_law_1372 : decode cL_law 1372 = .ok (.invokevirtual 87, 3) := by decide +kernel
theorem dL_law_1375 : decode cL_law 1375 = .ok (.iload 5, 2) := by decide +kernel
theorem dL_law_1377 : decode cL_law 1377 = .ok (.if_icmp .eq 5, 3) := by decide +kernel
theorem dL_law_1380 : decode cL_law 1380 = .ok (.iconst 0, 1) := by decide +kernel
theorem dL_law_1381 : decode cL_law 1381 = .ok (.ireturn, 1) := by decide +kernel
theorem dL_law_1382 : decode cL_law 1382 = .ok (.iload 5, 2) := by decide +kernel
theorem dL_law_1384 : decode cL_law 1384 = .ok (.ifCond .ne 15, 3) := by decide +kernel
theorem dL_law_1387 : decode cL_law 1387 = .ok (.aload_n 3, 1) := by decide +kernel
theorem dL_law_1388 : decode cL_law 1388 = .ok (.iconst 0, 1) := by decide +kernel
theorem dL_law_1389 : decode cL_law 1389 = .ok (.laload, 1) := by decide +kernel
theorem dL_law_1390 : decode cL_law 1390 = .ok (.iload 6, 2) := by decide +kernel
theorem dL_law_1392 : decode cL_law 1392 = .ok (.i2l, 1) := by decide +kernel
theorem dL_law_1393 : decode cL_law 1393 = .ok (.lcmp, 1) := by decide +kernel
theorem dL_law_1394 : decode cL_law 1394 = .ok (.ifCond .eq 5, 3) := by decide +kernel
theorem dL_law_1397 : decode cL_law 1397 = .ok (.iconst 0, 1) := by decide +kernel
theorem dL_law_1398 : decode cL_law 1398 = .ok (.ireturn, 1) := by decide +kernel
theorem dL_law_1399 : decode cL_law 1399 = .ok (.goto 84, 3) := by decide +kernel
theorem dL_law_1402 : decode cL_law 1402 = .ok (.aload_n 1, 1) := by decide +kernel
theorem dL_law_1403 : decode cL_law 1403 = .ok (.invokevirtual 160, 3) := by decide +kernel
theorem dL_law_1406 : decode cL_law 1406 = .ok (.aload_n 2, 1) := by decide +kernel
theorem dL_law_1407 : decode cL_law 1407 = .ok (.invokevirtual 163, 3) := by decide +kernel
theorem dL_law_1410 : decode cL_law 1410 = .ok (.if_icmp .eq 73, 3) := by decide +kernel
theorem dL_law_1413 : decode cL_law 1413 = .ok (.iconst 0, 1) := by decide +kernel
theorem dL_law_1414 : decode cL_law 1414 = .ok (.ireturn, 1) := by decide +kernel
theorem dL_law_1415 : decode cL_law 1415 = .ok (.aload_n 1, 1) := by decide +kernel
theorem dL_law_1416 : decode cL_law 1416 = .ok (.invokevirtual 164, 3) := by decide +kernel
theorem dL_law_1419 : decode cL_law 1419 = .ok (.aload_n 2, 1) := by decide +kernel
theorem dL_law_1420 : decode cL_law 1420 = .ok (.invokevirtual 167, 3) := by decide +kernel
theorem dL_law_1423 : decode cL_law 1423 = .ok (.if_icmp .eq 60, 3) := by decide +kernel
theorem dL_law_1426 : decode cL_law 1426 = .ok (.iconst 0, 1) := by decide +kernel
theorem dL_law_1427 : decode cL_law 1427 = .ok (.ireturn, 1) := by decide +kernel
theorem dL_law_1428 : decode cL_law 1428 = .ok (.aload_n 1, 1) := by decide +kernel
theorem dL_law_1429 : decode cL_law 1429 = .ok (.invokevirtual 168, 3) := by decide +kernel
theorem dL_law_1432 : decode cL_law 1432 = .ok (.dstore 5, 2) := by decide +kernel
theorem dL_law_1434 : decode cL_law 1434 = .ok (.aload_n 2, 1) := by decide +kernel
theorem dL_law_1435 : decode cL_law 1435 = .ok (.invokevirtual 172, 3) := by decide +kernel
theorem dL_law_1438 : decode cL_law 1438 = .ok (.dstore 7, 2) := by decide +kernel
theorem dL_law_1440 : decode cL_law 1440 = .ok (.dload 5, 2) := by decide +kernel
theorem dL_law_1442 : decode cL_law 1442 = .ok (.dload 7, 2) := by decide +kernel
theorem dL_law_1444 : decode cL_law 1444 = .ok (.dcmp .l, 1) := by decide +kernel
theorem dL_law_1445 : decode cL_law 1445 = .ok (.ifCond .eq 21, 3) := by decide +kernel
theorem dL_law_1448 : decode cL_law 1448 = .ok (.dload 5, 2) := by decide +kernel
theorem dL_law_1450 : decode cL_law 1450 = .ok (.dload 5, 2) := by decide +kernel
theorem dL_law_1452 : decode cL_law 1452 = .ok (.dcmp .l, 1) := by decide +kernel
theorem dL_law_1453 : decode cL_law 1453 = .ok (.ifCond .eq 11, 3) := by decide +kernel
theorem dL_law_1456 : decode cL_law 1456 = .ok (.dload 7, 2) := by decide +kernel
theorem dL_law_1458 : decode cL_law 1458 = .ok (.dload 7, 2) := by decide +kernel
theorem dL_law_1460 : decode cL_law 1460 = .ok (.dcmp .l, 1) := by decide +kernel
theorem dL_law_1461 : decode cL_law 1461 = .ok (.ifCond .ne 5, 3) := by decide +kernel
theorem dL_law_1464 : decode cL_law 1464 = .ok (.iconst 0, 1) := by decide +kernel
theorem dL_law_1465 : decode cL_law 1465 = .ok (.ireturn, 1) := by decide +kernel
theorem dL_law_1466 : decode cL_law 1466 = .ok (.goto 17, 3) := by decide +kernel
theorem dL_law_1469 : decode cL_law 1469 = .ok (.aload_n 1, 1) := by decide +kernel
theorem dL_law_1470 : decode cL_law 1470 = .ok (.invokevirtual 173, 3) := by decide +kernel
theorem dL_law_1473 : decode cL_law 1473 = .ok (.aload_n 2, 1) := by decide +kernel
theorem dL_law_1474 : decode cL_law 1474 = .ok (.invokevirtual 177, 3) := by decide +kernel
theorem dL_law_1477 : decode cL_law 1477 = .ok (.lcmp, 1) := by decide +kernel
theorem dL_law_1478 : decode cL_law 1478 = .ok (.ifCond .eq 5, 3) := by decide +kernel
theorem dL_law_1481 : decode cL_law 1481 = .ok (.iconst 0, 1) := by decide +kernel
theorem dL_law_1482 : decode cL_law 1482 = .ok (.ireturn, 1) := by decide +kernel
theorem dL_law_1483 : decode cL_law 1483 = .ok (.iinc 4 4, 3) := by decide +kernel
theorem dL_law_1486 : decode cL_law 1486 = .ok (.goto (-1463), 3) := by decide +kernel
theorem dL_law_1489 : decode cL_law 1489 = .ok (.iconst 1, 1) := by decide +kernel
theorem dL_law_1490 : decode cL_law 1490 = .ok (.ireturn, 1) := by decide +kernel
end
section
/-! the abstract layer: a world is a list of cells, the cell i lies at the address B + i; references are places in the list -/
abbrev a_G : Type := va_G × (Nat → ClassId) × (Nat → Nat) × Nat
def a_D (g : a_G) : va_G := g.1
def a_ct (g : a_G) : Nat → ClassId := g.2.1
def a_ad (g : a_G) : Nat → Nat := g.2.2.1
def a_B (g : a_G) : Nat := g.2.2.2
abbrev a_cl : List vw_C := [(RX0, TX0, 5), (RX1, TX1, 19), (RX2, TX2, 3), (RX3, TX3, 4), (RX4, TX4, 14)]
def a_tys (g : a_G) : List (ClassId × FieldType) := [(a_ct g 0, .int), (a_ct g 1, .char), (a_ct g 2, .long), (a_ct g 3, .object "SlateRoof$Roof")]
def a_A (g : a_G) : Nat → Prop := fun q => a_B g ≤ q
def a_cv (g : a_G) : Value → Value
  | .ref i => .ref (a_ad g i)
  | v => v
def a_lv (g : a_G) (q : Nat × Value) : Nat × Value := (q.1, a_cv g q.2)
def a_ca (g : a_G) : vp_A → vp_A
  | (n, .inr (.inr (.inr (.inr f)))) => (n, .inr (.inr (.inr (.inr (fun j => (f j).map (a_ad g))))))
  | a => a
def a_ce (g : a_G) : va_E → va_E
  | .inl (k, a) => .inl (a_ct g k, a_ca g a)
  | .inr (ci, fs) => .inr (ci, fs.map (a_cv g))
def a_cw (g : a_G) (h : List va_E) : va_W := h.mapIdx fun i e => (a_ad g i, a_ce g e)
theorem a_cat (g : a_G) (v : Value) : (a_cv g v).category = v.category := by cases v <;> rfl
theorem a_cw_at (g : a_G) (h : List va_E) (i : Nat) : (a_cw g h)[i]? = h[i]?.map fun e => (a_ad g i, a_ce g e) := by
  unfold a_cw
  rw [List.getElem?_mapIdx]
theorem a_cw_get {g : a_G} {h : List va_E} {i : Nat} {e : va_E} (hh : h[i]? = some e) : (a_cw g h)[i]? = some (a_ad g i, a_ce g e) := by
  rw [a_cw_at, hh]; rfl
theorem a_cw_len (g : a_G) (h : List va_E) : (a_cw g h).length = h.length := by unfold a_cw; rw [List.length_mapIdx]
theorem a_cw_set (g : a_G) (h : List va_E) (i : Nat) (e : va_E) : a_cw g (h.set i e) = (a_cw g h).set i (a_ad g i, a_ce g e) := by
  apply List.ext_getElem?
  intro j
  rw [a_cw_at, List.getElem?_set, List.getElem?_set, a_cw_at, a_cw_len]
  by_cases hj : i = j
  · subst hj
    by_cases hl : i < h.length
    · simp [hl]
    · simp [hl]
  · simp [hj]
theorem a_cw_app (g : a_G) (h : List va_E) (e : va_E) : a_cw g (h ++ [e]) = a_cw g h ++ [(a_ad g h.length, a_ce g e)] := by
  apply List.ext_getElem?
  intro j
  rw [a_cw_at, List.getElem?_append, List.getElem?_append, a_cw_at, a_cw_len]
  by_cases hl : j < h.length
  · simp [hl]
  · by_cases hj : j = h.length
    · subst hj; simp
    · rw [if_neg hl, if_neg hl, List.getElem?_eq_none (by simp; omega), List.getElem?_eq_none (by simp; omega)]
      rfl
def a_HP (g : a_G) (h : List va_E) (H : Heap) : Prop := h.length ≤ 1000 ∧ va_P (a_D g) a_cl (a_cw g h) H
def a_SZ (g : a_G) (sz : Option Nat) (H : Heap) : Prop := ∀ n, sz = some n → H.size = a_B g + n
def a_least (j : Nat) : Int32 := if j = 0 then 2 else 1
def a_most (j : Nat) : Int32 := if j = 0 then 6 else if j = 1 then 60 else 5
def a_nest : List (String × Nat × MethodName) := [(RX3, 9, yX1_init), (RX2, 17, yX1_init), (RX3, 28, yX0_init), (RX1, 49, yX3_copyRow), (RX1, 83, yX3_valueAt), (RX1, 119, yX3_addAt)]

def a_strs : List (Nat × String) := [(39, "height or width is out of range"), (67, "there is no such setting"), (81, "value is out of range"), (95, "length or many is out of range"), (106, "too many slates would have been bought"), (129, "an argument is out of range"), (131, "there are not so many broken ones"), (136, "length is out of range"), (151, "the course cannot be begun"), (157, "many is out of range"), (162, "so many slates cannot be laid"), (178, "there is no such course or place"), (183, "the place cannot be mended"), (192, "weather is out of range"), (197, "the last day has come"), (202, "code is out of range"), (207, "the buffer is full"), (219, "the buffer is not a complete row of days"), (224, "there are too many days"), (241, "there is no saved state"), (249, "there is no such course"), (266, "there is no such property"), (274, "what is out of range"), (285, "length or what is out of range")]

/-- what of the start stays known: the classes, the static fields, the links within the nest, the texts -/
def a_ES (g : a_G) (U : State) : Prop := va_Z "SlateRoof" "LEAST_SETTINGS" "[I" (.ref (a_ad g 1000)) (a_A g) U U.heap ∧ va_Z "SlateRoof" "MOST_SETTINGS" "[I" (.ref (a_ad g 1001)) (a_A g) U U.heap ∧ (a_ad g 1000 < a_B g ∧ va_X (a_ad g 1000) 3 a_least U U.heap) ∧ (a_ad g 1001 < a_B g ∧ va_X (a_ad g 1001) 3 a_most U U.heap) ∧ vx_Zq Bundle.tN "UNASSIGNED_STACK" Bundle.steD (a_A g) U U.heap ∧ vx_Zq Bundle.tN "SUPPRESSED_SENTINEL" Bundle.listD (a_A g) U U.heap
def a_EN (U : State) : Prop := (∀ q ∈ a_nest, va_Nw (.methodLinkNest q.1 q.2.1 q.2.2 "SlateRoof") U) ∧ (∀ q ∈ a_strs, ∃ sa : Nat, vk_R "SlateRoof" q.1 q.2 sa U) ∧ va_AO "SlateRoof$Roof" U
def a_E (g : a_G) (U : State) : Prop := va_K (a_D g) a_cl (a_tys g) U ∧ (∀ i, i < 1000 → a_ad g i = a_B g + i) ∧ a_B g ≤ U.heap.size ∧ a_ES g U ∧ a_EN U
theorem a_E.moved {g : a_G} {s U : State} {H : Heap} {locs : List Loc} (h : a_E g s) (hS : va_S (a_A g) s.heap H locs) (hW : s.WarmedH U.vm) (hU : U.heap = H) : a_E g U := by
  obtain ⟨hK, hB, hz, ⟨h1, h2, ⟨h3, h4⟩, ⟨h5, h6⟩, h7, h8⟩, hn, hs, ho⟩ := h
  have hvm := hW.alike
  have hk : ∀ a : Nat, a < s.heap.size → ¬ a_A g a → U.heap[a]? = s.heap[a]? := fun a ha hb => by rw [hU]; exact hS.2.1 a ha hb
  have hx : ∀ a : Nat, a < a_B g → U.heap[a]? = s.heap[a]? := fun a ha => hk a (Nat.lt_of_lt_of_le ha hz) (fun q => absurd ha (Nat.not_lt.mpr q))
  refine ⟨va_K.moved hvm hK, hB, by rw [hU]; exact Nat.le_trans hz hS.1, ⟨(va_Z.moved hvm h1).kept hk, (va_Z.moved hvm h2).kept hk, ⟨h3, (va_X.moved hvm h4).kept (hx _ h3)⟩, ⟨h5, (va_X.moved hvm h6).kept (hx _ h5)⟩, (vx_Zq.moved hvm h7).kept hk, (vx_Zq.moved hvm h8).kept hk⟩, fun q hq => va_Nw.warmM hW (hn q hq), fun q hq => ?_, va_AO.moved hvm ho⟩
  obtain ⟨sa, hsa⟩ := hs q hq
  exact ⟨sa, vk_R.warm hW hsa⟩
theorem a_E.same {g : a_G} {u U : State} (hv : U.vm = u.vm) (hh : U.heap = u.heap) (h : a_E g u) : a_E g U := by
  obtain ⟨hK, hB, hz, ⟨h1, h2, ⟨h3, h4⟩, ⟨h5, h6⟩, h7, h8⟩, hn, hs, ho⟩ := h
  have hvm : u.vm.Alike U.vm := by rw [hv]; exact Vm.Alike.refl _
  refine ⟨va_K.moved hvm hK, hB, by rw [hh]; exact hz, ⟨?_, ?_, ⟨h3, ?_⟩, ⟨h5, ?_⟩, ?_, ?_⟩, fun q hq => va_Nw.same rfl hv.symm (hn q hq), fun q hq => ?_, va_AO.moved hvm ho⟩
  · rw [hh]; exact va_Z.moved hvm h1
  · rw [hh]; exact va_Z.moved hvm h2
  · rw [hh]; exact va_X.moved hvm h4
  · rw [hh]; exact va_X.moved hvm h6
  · rw [hh]; exact vx_Zq.moved hvm h7
  · rw [hh]; exact vx_Zq.moved hvm h8
  · obtain ⟨sa, hsa⟩ := hs q hq
    exact ⟨sa, vk_R.same hv hsa⟩
theorem a_Dof {g : a_G} {h : List va_E} (hB : ∀ i, i < 1000 → a_ad g i = a_B g + i) (hl : h.length ≤ 1000) : va_D (a_A g) (a_cw g h) := by
  have key : ∀ (i : Nat) (q : Nat × va_E), (a_cw g h)[i]? = some q → i < 1000 ∧ q.1 = a_B g + i := by
    intro i q hq
    rw [a_cw_at] at hq
    cases hh : h[i]? with
    | none => rw [hh] at hq; cases hq
    | some e =>
      rw [hh] at hq
      cases hq
      have hi : i < h.length := (List.getElem?_eq_some_iff.mp hh).1
      exact ⟨by omega, hB i (by omega)⟩
  refine ⟨fun i j p q hp hq he => ?_, fun k q hq => ?_⟩
  · have h1 := key i p hp
    have h2 := key j q hq
    omega
  · have h1 := key k q hq
    show a_B g ≤ q.1
    omega
def a_FX (p : Program) (s : State) (m : MethodId) (args : Array Value) (meth : Method) (c : Code) (own : String) (cc : ByteArray) (nL : Nat) (g : a_G) : Prop :=
  p.tables.exec = Jvm.exec ∧ c.code = cc ∧ c.maxLocals = nL ∧ s.vm.findClass own = some m.cls ∧ (∀ w ∈ a_WS, w.before args s = true) ∧ meth.locks = false ∧ a_E g s
def a_W (p : Program) (l : Launch) (e : Env) (R : Room) (s : State) (m : MethodId) (args : Array Value) (below : List Frame) (meth : Method) (c : Code) (Q : State → Prop) (own : String) (cc : ByteArray) (nL : Nat) (g : a_G) (cells slots : Nat) (sz : Option Nat) (pc : Nat) (ls : List (Nat × Value)) (st : List Value) (h : List va_E) : Prop :=
  a_FX p s m args meth c own cc nL g → ∀ (H : Heap) (locs : List Loc) (lsC : Array Slot), a_HP g h H → va_S (a_A g) s.heap H locs → a_SZ g sz H → lv_has lsC nL (ls.map (a_lv g)) → W p l e R s m args below meth c H locs cells slots Q (F0 m pc lsC (st.map (a_cv g)))
theorem a_lat {g : a_G} {ls : List (Nat × Value)} {k i : Nat} {v : Value} (hk : ls[k]? = some (i, v)) : (ls.map (a_lv g))[k]? = some (i, a_cv g v) := by
  rw [List.getElem?_map, hk]; rfl
theorem a_lst1 {g : a_G} {ls ls' : List (Nat × Value)} {i : Nat} {v : Value} (hl : (i, v) :: ls.filter (fun q => !(q.1 == i) && !(q.1 + 1 == i && q.2.category == 2)) = ls') : (i, a_cv g v) :: (ls.map (a_lv g)).filter (fun q => !(q.1 == i) && !(q.1 + 1 == i && q.2.category == 2)) = ls'.map (a_lv g) := by
  subst hl
  rw [List.filter_map, List.map_cons]
  congr 2
  apply List.filter_congr
  intro q _
  simp [a_lv, a_cat]
theorem a_lst2 {g : a_G} {ls ls' : List (Nat × Value)} {i : Nat} {v : Value} (hl : (i, v) :: ls.filter (fun q => !(q.1 == i) && (!(q.1 == i + 1) && !(q.1 + 1 == i && q.2.category == 2))) = ls') : (i, a_cv g v) :: (ls.map (a_lv g)).filter (fun q => !(q.1 == i) && (!(q.1 == i + 1) && !(q.1 + 1 == i && q.2.category == 2))) = ls'.map (a_lv g) := by
  subst hl
  rw [List.filter_map, List.map_cons]
  congr 2
  apply List.filter_congr
  intro q _
  simp [a_lv, a_cat]

section AR
variable {p : Program} {l : Launch} {e : Env} {R : Room} {s : State} {m : MethodId} {args : Array Value} {below : List Frame} {meth : Method} {c : Code} {Q : State → Prop} {own : String} {cc : ByteArray} {nL : Nat} {g : a_G} {cells slots : Nat} {sz : Option Nat} {pc pc' : Nat} {ls : List (Nat × Value)} {st : List Value} {h : List va_E}
theorem a_iconst {n : Int} {v : Int32} (hd : decode cc pc = .ok (.iconst n, 1)) (hp : pc + 1 = pc') (hv : Int32.ofInt n = v) (k : a_W p l e R s m args below meth c Q own cc nL g cells slots sz (pc') ls (.int v :: st) h) : a_W p l e R s m args below meth c Q own cc nL g cells slots sz (pc) ls (st) h := fun F H locs lsC hP hS hz hl => by subst hp; exact lv_iconst F.1 F.2.1 hd hv (k F H locs lsC hP hS hz hl)
theorem a_bipush {n : Int} {v : Int32} (hd : decode cc pc = .ok (.bipush n, 2)) (hp : pc + 2 = pc') (hv : (Int8.ofInt n).toInt32 = v) (k : a_W p l e R s m args below meth c Q own cc nL g cells slots sz (pc') ls (.int v :: st) h) : a_W p l e R s m args below meth c Q own cc nL g cells slots sz (pc) ls (st) h := fun F H locs lsC hP hS hz hl => by subst hp; exact lv_bipush F.1 F.2.1 hd hv (k F H locs lsC hP hS hz hl)
theorem a_sipush {n : Int} {v : Int32} (hd : decode cc pc = .ok (.sipush n, 3)) (hp : pc + 3 = pc') (hv : (Int16.ofInt n).toInt32 = v) (k : a_W p l e R s m args below meth c Q own cc nL g cells slots sz (pc') ls (.int v :: st) h) : a_W p l e R s m args below meth c Q own cc nL g cells slots sz (pc) ls (st) h := fun F H locs lsC hP hS hz hl => by subst hp; exact lv_sipush F.1 F.2.1 hd hv (k F H locs lsC hP hS hz hl)
theorem a_lconst {n : Fin 2} {v : Int64} (hd : decode cc pc = .ok (.lconst n, 1)) (hp : pc + 1 = pc') (hv : Int64.ofNat (n : Nat) = v) (k : a_W p l e R s m args below meth c Q own cc nL g cells slots sz (pc') ls (.long v :: st) h) : a_W p l e R s m args below meth c Q own cc nL g cells slots sz (pc) ls (st) h := fun F H locs lsC hP hS hz hl => by subst hp; exact lv_lconst F.1 F.2.1 hd hv (k F H locs lsC hP hS hz hl)
theorem a_dconst0  (hd : decode cc pc = .ok (.dconst 0, 1)) (hp : pc + 1 = pc')  (k : a_W p l e R s m args below meth c Q own cc nL g cells slots sz (pc') ls (.double FP.dconst0 :: st) h) : a_W p l e R s m args below meth c Q own cc nL g cells slots sz (pc) ls (st) h := fun F H locs lsC hP hS hz hl => by subst hp; exact lv_dconst0 F.1 F.2.1 hd  (k F H locs lsC hP hS hz hl)
theorem a_dconst1  (hd : decode cc pc = .ok (.dconst 1, 1)) (hp : pc + 1 = pc')  (k : a_W p l e R s m args below meth c Q own cc nL g cells slots sz (pc') ls (.double FP.dconst1 :: st) h) : a_W p l e R s m args below meth c Q own cc nL g cells slots sz (pc) ls (st) h := fun F H locs lsC hP hS hz hl => by subst hp; exact lv_dconst1 F.1 F.2.1 hd  (k F H locs lsC hP hS hz hl)
theorem a_iload_n {kf : Fin 4} {i : Nat} {x : Int32} (q : Nat) (hd : decode cc pc = .ok (.iload_n kf, 1)) (hi : (kf : Nat) = i) (hk : ls[q]? = some (i, .int x)) (hp : pc + 1 = pc') (k : a_W p l e R s m args below meth c Q own cc nL g cells slots sz (pc') ls (.int x :: st) h) : a_W p l e R s m args below meth c Q own cc nL g cells slots sz (pc) ls (st) h := fun F H locs lsC hP hS hz hl => by subst hp; exact lv_iload_n F.1 F.2.1 hd hi (lv_at hl q (a_lat hk)) (k F H locs lsC hP hS hz hl)
theorem a_iload {i : Nat} {x : Int32} (q : Nat) (hd : decode cc pc = .ok (.iload i, 2)) (hk : ls[q]? = some (i, .int x)) (hp : pc + 2 = pc') (k : a_W p l e R s m args below meth c Q own cc nL g cells slots sz (pc') ls (.int x :: st) h) : a_W p l e R s m args below meth c Q own cc nL g cells slots sz (pc) ls (st) h := fun F H locs lsC hP hS hz hl => by subst hp; exact lv_iload F.1 F.2.1 hd (lv_at hl q (a_lat hk)) (k F H locs lsC hP hS hz hl)
theorem a_istore_n {kf : Fin 4} {i : Nat} {x : Int32} {ls' : List (Nat × Value)} (hd : decode cc pc = .ok (.istore_n kf, 1)) (hi : (kf : Nat) = i) (hn : i < nL) (hls : (i, Value.int x) :: ls.filter (fun q => !(q.1 == i) && !(q.1 + 1 == i && q.2.category == 2)) = ls') (hp : pc + 1 = pc') (k : a_W p l e R s m args below meth c Q own cc nL g cells slots sz (pc') ls' (st) h) : a_W p l e R s m args below meth c Q own cc nL g cells slots sz (pc) ls (.int x :: st) h := fun F H locs lsC hP hS hz hl => by subst hp; exact lv_istore_n F.1 F.2.1 hd hi hl hn (a_lst1 (g := g) hls) (fun lsC2 hl2 => k F H locs lsC2 hP hS hz hl2)
theorem a_istore {i : Nat} {x : Int32} {ls' : List (Nat × Value)} (hd : decode cc pc = .ok (.istore i, 2)) (hn : i < nL) (hls : (i, Value.int x) :: ls.filter (fun q => !(q.1 == i) && !(q.1 + 1 == i && q.2.category == 2)) = ls') (hp : pc + 2 = pc') (k : a_W p l e R s m args below meth c Q own cc nL g cells slots sz (pc') ls' (st) h) : a_W p l e R s m args below meth c Q own cc nL g cells slots sz (pc) ls (.int x :: st) h := fun F H locs lsC hP hS hz hl => by subst hp; exact lv_istore F.1 F.2.1 hd hl hn (a_lst1 (g := g) hls) (fun lsC2 hl2 => k F H locs lsC2 hP hS hz hl2)
theorem a_lload_n {kf : Fin 4} {i : Nat} {x : Int64} (q : Nat) (hd : decode cc pc = .ok (.lload_n kf, 1)) (hi : (kf : Nat) = i) (hk : ls[q]? = some (i, .long x)) (hp : pc + 1 = pc') (k : a_W p l e R s m args below meth c Q own cc nL g cells slots sz (pc') ls (.long x :: st) h) : a_W p l e R s m args below meth c Q own cc nL g cells slots sz (pc) ls (st) h := fun F H locs lsC hP hS hz hl => by subst hp; exact lv_lload_n F.1 F.2.1 hd hi (lv_at hl q (a_lat hk)) (k F H locs lsC hP hS hz hl)
theorem a_lload {i : Nat} {x : Int64} (q : Nat) (hd : decode cc pc = .ok (.lload i, 2)) (hk : ls[q]? = some (i, .long x)) (hp : pc + 2 = pc') (k : a_W p l e R s m args below meth c Q own cc nL g cells slots sz (pc') ls (.long x :: st) h) : a_W p l e R s m args below meth c Q own cc nL g cells slots sz (pc) ls (st) h := fun F H locs lsC hP hS hz hl => by subst hp; exact lv_lload F.1 F.2.1 hd (lv_at hl q (a_lat hk)) (k F H locs lsC hP hS hz hl)
theorem a_lstore_n {kf : Fin 4} {i : Nat} {x : Int64} {ls' : List (Nat × Value)} (hd : decode cc pc = .ok (.lstore_n kf, 1)) (hi : (kf : Nat) = i) (hn : i + 1 < nL) (hls : (i, Value.long x) :: ls.filter (fun q => !(q.1 == i) && (!(q.1 == i + 1) && !(q.1 + 1 == i && q.2.category == 2))) = ls') (hp : pc + 1 = pc') (k : a_W p l e R s m args below meth c Q own cc nL g cells slots sz (pc') ls' (st) h) : a_W p l e R s m args below meth c Q own cc nL g cells slots sz (pc) ls (.long x :: st) h := fun F H locs lsC hP hS hz hl => by subst hp; exact lv_lstore_n F.1 F.2.1 hd hi hl hn (a_lst2 (g := g) hls) (fun lsC2 hl2 => k F H locs lsC2 hP hS hz hl2)
theorem a_lstore {i : Nat} {x : Int64} {ls' : List (Nat × Value)} (hd : decode cc pc = .ok (.lstore i, 2)) (hn : i + 1 < nL) (hls : (i, Value.long x) :: ls.filter (fun q => !(q.1 == i) && (!(q.1 == i + 1) && !(q.1 + 1 == i && q.2.category == 2))) = ls') (hp : pc + 2 = pc') (k : a_W p l e R s m args below meth c Q own cc nL g cells slots sz (pc') ls' (st) h) : a_W p l e R s m args below meth c Q own cc nL g cells slots sz (pc) ls (.long x :: st) h := fun F H locs lsC hP hS hz hl => by subst hp; exact lv_lstore F.1 F.2.1 hd hl hn (a_lst2 (g := g) hls) (fun lsC2 hl2 => k F H locs lsC2 hP hS hz hl2)
theorem a_dload_n {kf : Fin 4} {i : Nat} {x : UInt64} (q : Nat) (hd : decode cc pc = .ok (.dload_n kf, 1)) (hi : (kf : Nat) = i) (hk : ls[q]? = some (i, .double x)) (hp : pc + 1 = pc') (k : a_W p l e R s m args below meth c Q own cc nL g cells slots sz (pc') ls (.double x :: st) h) : a_W p l e R s m args below meth c Q own cc nL g cells slots sz (pc) ls (st) h := fun F H locs lsC hP hS hz hl => by subst hp; exact lv_dload_n F.1 F.2.1 hd hi (lv_at hl q (a_lat hk)) (k F H locs lsC hP hS hz hl)
theorem a_dload {i : Nat} {x : UInt64} (q : Nat) (hd : decode cc pc = .ok (.dload i, 2)) (hk : ls[q]? = some (i, .double x)) (hp : pc + 2 = pc') (k : a_W p l e R s m args below meth c Q own cc nL g cells slots sz (pc') ls (.double x :: st) h) : a_W p l e R s m args below meth c Q own cc nL g cells slots sz (pc) ls (st) h := fun F H locs lsC hP hS hz hl => by subst hp; exact lv_dload F.1 F.2.1 hd (lv_at hl q (a_lat hk)) (k F H locs lsC hP hS hz hl)
theorem a_dstore_n {kf : Fin 4} {i : Nat} {x : UInt64} {ls' : List (Nat × Value)} (hd : decode cc pc = .ok (.dstore_n kf, 1)) (hi : (kf : Nat) = i) (hn : i + 1 < nL) (hls : (i, Value.double x) :: ls.filter (fun q => !(q.1 == i) && (!(q.1 == i + 1) && !(q.1 + 1 == i && q.2.category == 2))) = ls') (hp : pc + 1 = pc') (k : a_W p l e R s m args below meth c Q own cc nL g cells slots sz (pc') ls' (st) h) : a_W p l e R s m args below meth c Q own cc nL g cells slots sz (pc) ls (.double x :: st) h := fun F H locs lsC hP hS hz hl => by subst hp; exact lv_dstore_n F.1 F.2.1 hd hi hl hn (a_lst2 (g := g) hls) (fun lsC2 hl2 => k F H locs lsC2 hP hS hz hl2)
theorem a_dstore {i : Nat} {x : UInt64} {ls' : List (Nat × Value)} (hd : decode cc pc = .ok (.dstore i, 2)) (hn : i + 1 < nL) (hls : (i, Value.double x) :: ls.filter (fun q => !(q.1 == i) && (!(q.1 == i + 1) && !(q.1 + 1 == i && q.2.category == 2))) = ls') (hp : pc + 2 = pc') (k : a_W p l e R s m args below meth c Q own cc nL g cells slots sz (pc') ls' (st) h) : a_W p l e R s m args below meth c Q own cc nL g cells slots sz (pc) ls (.double x :: st) h := fun F H locs lsC hP hS hz hl => by subst hp; exact lv_dstore F.1 F.2.1 hd hl hn (a_lst2 (g := g) hls) (fun lsC2 hl2 => k F H locs lsC2 hP hS hz hl2)
theorem a_aload_n {kf : Fin 4} {i : Nat} {x : Nat} (q : Nat) (hd : decode cc pc = .ok (.aload_n kf, 1)) (hi : (kf : Nat) = i) (hk : ls[q]? = some (i, .ref x)) (hp : pc + 1 = pc') (k : a_W p l e R s m args below meth c Q own cc nL g cells slots sz (pc') ls (.ref x :: st) h) : a_W p l e R s m args below meth c Q own cc nL g cells slots sz (pc) ls (st) h := fun F H locs lsC hP hS hz hl => by subst hp; exact lv_aload_n F.1 F.2.1 hd hi (lv_at hl q (a_lat hk)) (k F H locs lsC hP hS hz hl)
theorem a_aload {i : Nat} {x : Nat} (q : Nat) (hd : decode cc pc = .ok (.aload i, 2)) (hk : ls[q]? = some (i, .ref x)) (hp : pc + 2 = pc') (k : a_W p l e R s m args below meth c Q own cc nL g cells slots sz (pc') ls (.ref x :: st) h) : a_W p l e R s m args below meth c Q own cc nL g cells slots sz (pc) ls (st) h := fun F H locs lsC hP hS hz hl => by subst hp; exact lv_aload F.1 F.2.1 hd (lv_at hl q (a_lat hk)) (k F H locs lsC hP hS hz hl)
theorem a_astore_n {kf : Fin 4} {i : Nat} {x : Nat} {ls' : List (Nat × Value)} (hd : decode cc pc = .ok (.astore_n kf, 1)) (hi : (kf : Nat) = i) (hn : i < nL) (hls : (i, Value.ref x) :: ls.filter (fun q => !(q.1 == i) && !(q.1 + 1 == i && q.2.category == 2)) = ls') (hp : pc + 1 = pc') (k : a_W p l e R s m args below meth c Q own cc nL g cells slots sz (pc') ls' (st) h) : a_W p l e R s m args below meth c Q own cc nL g cells slots sz (pc) ls (.ref x :: st) h := fun F H locs lsC hP hS hz hl => by subst hp; exact lv_astore_n F.1 F.2.1 hd hi hl hn (a_lst1 (g := g) hls) (fun lsC2 hl2 => k F H locs lsC2 hP hS hz hl2)
theorem a_astore {i : Nat} {x : Nat} {ls' : List (Nat × Value)} (hd : decode cc pc = .ok (.astore i, 2)) (hn : i < nL) (hls : (i, Value.ref x) :: ls.filter (fun q => !(q.1 == i) && !(q.1 + 1 == i && q.2.category == 2)) = ls') (hp : pc + 2 = pc') (k : a_W p l e R s m args below meth c Q own cc nL g cells slots sz (pc') ls' (st) h) : a_W p l e R s m args below meth c Q own cc nL g cells slots sz (pc) ls (.ref x :: st) h := fun F H locs lsC hP hS hz hl => by subst hp; exact lv_astore F.1 F.2.1 hd hl hn (a_lst1 (g := g) hls) (fun lsC2 hl2 => k F H locs lsC2 hP hS hz hl2)
theorem a_iinc {i : Nat} {n : Int} {x v : Int32} {ls' : List (Nat × Value)} (q : Nat) (hd : decode cc pc = .ok (.iinc i n, 3)) (hk : ls[q]? = some (i, .int x)) (hv : x + Int32.ofInt n = v) (hn : i < nL) (hls : (i, Value.int v) :: ls.filter (fun q => !(q.1 == i) && !(q.1 + 1 == i && q.2.category == 2)) = ls') (hp : pc + 3 = pc') (k : a_W p l e R s m args below meth c Q own cc nL g cells slots sz (pc') ls' (st) h) : a_W p l e R s m args below meth c Q own cc nL g cells slots sz (pc) ls (st) h := fun F H locs lsC hP hS hz hl => by subst hp; exact lv_iinc F.1 F.2.1 hd hl (k := q) (a_lat hk) hv hn (a_lst1 (g := g) (v := .int v) hls) (fun lsC2 hl2 => k F H locs lsC2 hP hS hz hl2)
theorem a_iinc_w {i : Nat} {n : Int} {x v : Int32} {ls' : List (Nat × Value)} (q : Nat) (hd : decode cc pc = .ok (.iinc i n, 6)) (hk : ls[q]? = some (i, .int x)) (hv : x + Int32.ofInt n = v) (hn : i < nL) (hls : (i, Value.int v) :: ls.filter (fun q => !(q.1 == i) && !(q.1 + 1 == i && q.2.category == 2)) = ls') (hp : pc + 6 = pc') (k : a_W p l e R s m args below meth c Q own cc nL g cells slots sz (pc') ls' (st) h) : a_W p l e R s m args below meth c Q own cc nL g cells slots sz (pc) ls (st) h := fun F H locs lsC hP hS hz hl => by subst hp; exact lv_iincW F.1 F.2.1 hd hl (k := q) (a_lat hk) hv hn (a_lst1 (g := g) (v := .int v) hls) (fun lsC2 hl2 => k F H locs lsC2 hP hS hz hl2)
theorem a_pop {v : Value} (hd : decode cc pc = .ok (.pop, 1)) (hc : v.category = 1) (hp : pc + 1 = pc') (k : a_W p l e R s m args below meth c Q own cc nL g cells slots sz (pc') ls (st) h) : a_W p l e R s m args below meth c Q own cc nL g cells slots sz (pc) ls (v :: st) h := fun F H locs lsC hP hS hz hl => by subst hp; exact lv_pop F.1 F.2.1 (va := a_cv g v) hd ((a_cat g v).trans hc) (k F H locs lsC hP hS hz hl)
theorem a_dup {v : Value} (hd : decode cc pc = .ok (.dup, 1)) (hc : v.category = 1) (hp : pc + 1 = pc') (k : a_W p l e R s m args below meth c Q own cc nL g cells slots sz (pc') ls (v :: v :: st) h) : a_W p l e R s m args below meth c Q own cc nL g cells slots sz (pc) ls (v :: st) h := fun F H locs lsC hP hS hz hl => by subst hp; exact lv_dup F.1 F.2.1 (va := a_cv g v) hd ((a_cat g v).trans hc) (k F H locs lsC hP hS hz hl)
theorem a_dup2 {v u : Value} (hd : decode cc pc = .ok (.dup2, 1)) (hc : v.category = 1) (hc2 : u.category = 1) (hp : pc + 1 = pc') (k : a_W p l e R s m args below meth c Q own cc nL g cells slots sz (pc') ls (v :: u :: v :: u :: st) h) : a_W p l e R s m args below meth c Q own cc nL g cells slots sz (pc) ls (v :: u :: st) h := fun F H locs lsC hP hS hz hl => by subst hp; exact lv_dup2_11 F.1 F.2.1 (va := a_cv g v) (vb := a_cv g u) hd ((a_cat g v).trans hc) ((a_cat g u).trans hc2) (k F H locs lsC hP hS hz hl)
theorem a_iadd {x y : Int32} (hd : decode cc pc = .ok (.iadd, 1)) (hp : pc + 1 = pc')  (k : a_W p l e R s m args below meth c Q own cc nL g cells slots sz (pc') ls (.int (x + y) :: st) h) : a_W p l e R s m args below meth c Q own cc nL g cells slots sz (pc) ls (.int y :: .int x :: st) h := fun F H locs lsC hP hS hz hl => by subst hp; exact lv_iadd F.1 F.2.1 hd  (k F H locs lsC hP hS hz hl)
theorem a_isub {x y : Int32} (hd : decode cc pc = .ok (.isub, 1)) (hp : pc + 1 = pc')  (k : a_W p l e R s m args below meth c Q own cc nL g cells slots sz (pc') ls (.int (x - y) :: st) h) : a_W p l e R s m args below meth c Q own cc nL g cells slots sz (pc) ls (.int y :: .int x :: st) h := fun F H locs lsC hP hS hz hl => by subst hp; exact lv_isub F.1 F.2.1 hd  (k F H locs lsC hP hS hz hl)
theorem a_imul {x y : Int32} (hd : decode cc pc = .ok (.imul, 1)) (hp : pc + 1 = pc')  (k : a_W p l e R s m args below meth c Q own cc nL g cells slots sz (pc') ls (.int (x * y) :: st) h) : a_W p l e R s m args below meth c Q own cc nL g cells slots sz (pc) ls (.int y :: .int x :: st) h := fun F H locs lsC hP hS hz hl => by subst hp; exact lv_imul F.1 F.2.1 hd  (k F H locs lsC hP hS hz hl)
theorem a_iand {x y : Int32} (hd : decode cc pc = .ok (.iand, 1)) (hp : pc + 1 = pc')  (k : a_W p l e R s m args below meth c Q own cc nL g cells slots sz (pc') ls (.int (x &&& y) :: st) h) : a_W p l e R s m args below meth c Q own cc nL g cells slots sz (pc) ls (.int y :: .int x :: st) h := fun F H locs lsC hP hS hz hl => by subst hp; exact lv_iand F.1 F.2.1 hd  (k F H locs lsC hP hS hz hl)
theorem a_ior {x y : Int32} (hd : decode cc pc = .ok (.ior, 1)) (hp : pc + 1 = pc')  (k : a_W p l e R s m args below meth c Q own cc nL g cells slots sz (pc') ls (.int (x ||| y) :: st) h) : a_W p l e R s m args below meth c Q own cc nL g cells slots sz (pc) ls (.int y :: .int x :: st) h := fun F H locs lsC hP hS hz hl => by subst hp; exact lv_ior F.1 F.2.1 hd  (k F H locs lsC hP hS hz hl)
theorem a_ixor {x y : Int32} (hd : decode cc pc = .ok (.ixor, 1)) (hp : pc + 1 = pc')  (k : a_W p l e R s m args below meth c Q own cc nL g cells slots sz (pc') ls (.int (x ^^^ y) :: st) h) : a_W p l e R s m args below meth c Q own cc nL g cells slots sz (pc) ls (.int y :: .int x :: st) h := fun F H locs lsC hP hS hz hl => by subst hp; exact lv_ixor F.1 F.2.1 hd  (k F H locs lsC hP hS hz hl)
theorem a_ishl {x y : Int32} (hd : decode cc pc = .ok (.ishl, 1)) (hp : pc + 1 = pc')  (k : a_W p l e R s m args below meth c Q own cc nL g cells slots sz (pc') ls (.int (x <<< (y &&& 31)) :: st) h) : a_W p l e R s m args below meth c Q own cc nL g cells slots sz (pc) ls (.int y :: .int x :: st) h := fun F H locs lsC hP hS hz hl => by subst hp; exact lv_ishl F.1 F.2.1 hd  (k F H locs lsC hP hS hz hl)
theorem a_ishr {x y : Int32} (hd : decode cc pc = .ok (.ishr, 1)) (hp : pc + 1 = pc')  (k : a_W p l e R s m args below meth c Q own cc nL g cells slots sz (pc') ls (.int (x >>> (y &&& 31)) :: st) h) : a_W p l e R s m args below meth c Q own cc nL g cells slots sz (pc) ls (.int y :: .int x :: st) h := fun F H locs lsC hP hS hz hl => by subst hp; exact lv_ishr F.1 F.2.1 hd  (k F H locs lsC hP hS hz hl)
theorem a_iushr {x y : Int32} (hd : decode cc pc = .ok (.iushr, 1)) (hp : pc + 1 = pc')  (k : a_W p l e R s m args below meth c Q own cc nL g cells slots sz (pc') ls (.int ((x.toUInt32 >>> (y.toUInt32 &&& Int32.toUInt32 31)).toInt32) :: st) h) : a_W p l e R s m args below meth c Q own cc nL g cells slots sz (pc) ls (.int y :: .int x :: st) h := fun F H locs lsC hP hS hz hl => by subst hp; exact lv_iushr F.1 F.2.1 hd rfl (k F H locs lsC hP hS hz hl)
theorem a_idiv {x y : Int32} (hd : decode cc pc = .ok (.idiv, 1)) (hp : pc + 1 = pc') (hne : ¬ y = 0) (k : a_W p l e R s m args below meth c Q own cc nL g cells slots sz (pc') ls (.int (x / y) :: st) h) : a_W p l e R s m args below meth c Q own cc nL g cells slots sz (pc) ls (.int y :: .int x :: st) h := fun F H locs lsC hP hS hz hl => by subst hp; exact lv_idiv F.1 F.2.1 hd hne (k F H locs lsC hP hS hz hl)
theorem a_irem {x y : Int32} (hd : decode cc pc = .ok (.irem, 1)) (hp : pc + 1 = pc') (hne : ¬ y = 0) (k : a_W p l e R s m args below meth c Q own cc nL g cells slots sz (pc') ls (.int (x - x / y * y) :: st) h) : a_W p l e R s m args below meth c Q own cc nL g cells slots sz (pc) ls (.int y :: .int x :: st) h := fun F H locs lsC hP hS hz hl => by subst hp; exact lv_irem F.1 F.2.1 hd hne (k F H locs lsC hP hS hz hl)
theorem a_ineg {x : Int32} (hd : decode cc pc = .ok (.ineg, 1)) (hp : pc + 1 = pc')  (k : a_W p l e R s m args below meth c Q own cc nL g cells slots sz (pc') ls (.int (-x) :: st) h) : a_W p l e R s m args below meth c Q own cc nL g cells slots sz (pc) ls (.int x :: st) h := fun F H locs lsC hP hS hz hl => by subst hp; exact lv_ineg F.1 F.2.1 hd  (k F H locs lsC hP hS hz hl)
theorem a_i2c {x : Int32} (hd : decode cc pc = .ok (.i2c, 1)) (hp : pc + 1 = pc')  (k : a_W p l e R s m args below meth c Q own cc nL g cells slots sz (pc') ls (.int ((x.toUInt32 % 65536).toInt32) :: st) h) : a_W p l e R s m args below meth c Q own cc nL g cells slots sz (pc) ls (.int x :: st) h := fun F H locs lsC hP hS hz hl => by subst hp; exact lv_i2c F.1 F.2.1 hd rfl (k F H locs lsC hP hS hz hl)
theorem a_i2l {x : Int32} (hd : decode cc pc = .ok (.i2l, 1)) (hp : pc + 1 = pc')  (k : a_W p l e R s m args below meth c Q own cc nL g cells slots sz (pc') ls (.long x.toInt64 :: st) h) : a_W p l e R s m args below meth c Q own cc nL g cells slots sz (pc) ls (.int x :: st) h := fun F H locs lsC hP hS hz hl => by subst hp; exact lv_i2l F.1 F.2.1 hd rfl (k F H locs lsC hP hS hz hl)
theorem a_i2d {x : Int32} (hd : decode cc pc = .ok (.i2d, 1)) (hp : pc + 1 = pc')  (k : a_W p l e R s m args below meth c Q own cc nL g cells slots sz (pc') ls (.double (FP.i2d x) :: st) h) : a_W p l e R s m args below meth c Q own cc nL g cells slots sz (pc) ls (.int x :: st) h := fun F H locs lsC hP hS hz hl => by subst hp; exact lv_i2d F.1 F.2.1 hd  (k F H locs lsC hP hS hz hl)
theorem a_d2l {x : UInt64} (hd : decode cc pc = .ok (.d2l, 1)) (hp : pc + 1 = pc')  (k : a_W p l e R s m args below meth c Q own cc nL g cells slots sz (pc') ls (.long (FP.d2l x) :: st) h) : a_W p l e R s m args below meth c Q own cc nL g cells slots sz (pc) ls (.double x :: st) h := fun F H locs lsC hP hS hz hl => by subst hp; exact lv_d2l F.1 F.2.1 hd  (k F H locs lsC hP hS hz hl)
theorem a_ladd {x y : Int64} (hd : decode cc pc = .ok (.ladd, 1)) (hp : pc + 1 = pc')  (k : a_W p l e R s m args below meth c Q own cc nL g cells slots sz (pc') ls (.long (x + y) :: st) h) : a_W p l e R s m args below meth c Q own cc nL g cells slots sz (pc) ls (.long y :: .long x :: st) h := fun F H locs lsC hP hS hz hl => by subst hp; exact lv_ladd F.1 F.2.1 hd  (k F H locs lsC hP hS hz hl)
theorem a_lsub {x y : Int64} (hd : decode cc pc = .ok (.lsub, 1)) (hp : pc + 1 = pc')  (k : a_W p l e R s m args below meth c Q own cc nL g cells slots sz (pc') ls (.long (x - y) :: st) h) : a_W p l e R s m args below meth c Q own cc nL g cells slots sz (pc) ls (.long y :: .long x :: st) h := fun F H locs lsC hP hS hz hl => by subst hp; exact lv_lsub F.1 F.2.1 hd  (k F H locs lsC hP hS hz hl)
theorem a_lmul {x y : Int64} (hd : decode cc pc = .ok (.lmul, 1)) (hp : pc + 1 = pc')  (k : a_W p l e R s m args below meth c Q own cc nL g cells slots sz (pc') ls (.long (x * y) :: st) h) : a_W p l e R s m args below meth c Q own cc nL g cells slots sz (pc) ls (.long y :: .long x :: st) h := fun F H locs lsC hP hS hz hl => by subst hp; exact lv_lmul F.1 F.2.1 hd  (k F H locs lsC hP hS hz hl)
theorem a_lor {x y : Int64} (hd : decode cc pc = .ok (.lor, 1)) (hp : pc + 1 = pc')  (k : a_W p l e R s m args below meth c Q own cc nL g cells slots sz (pc') ls (.long (x ||| y) :: st) h) : a_W p l e R s m args below meth c Q own cc nL g cells slots sz (pc) ls (.long y :: .long x :: st) h := fun F H locs lsC hP hS hz hl => by subst hp; exact lv_lor F.1 F.2.1 hd  (k F H locs lsC hP hS hz hl)
theorem a_lshl {x : Int64} {y : Int32} (hd : decode cc pc = .ok (.lshl, 1)) (hp : pc + 1 = pc')  (k : a_W p l e R s m args below meth c Q own cc nL g cells slots sz (pc') ls (.long (x <<< (y.toInt64 &&& 63)) :: st) h) : a_W p l e R s m args below meth c Q own cc nL g cells slots sz (pc) ls (.int y :: .long x :: st) h := fun F H locs lsC hP hS hz hl => by subst hp; exact lv_lshl F.1 F.2.1 hd rfl (k F H locs lsC hP hS hz hl)
theorem a_ddiv {x y : UInt64} (hd : decode cc pc = .ok (.ddiv, 1)) (hp : pc + 1 = pc') (hne : vf_n64 (FP.ddiv x y)) (k : a_W p l e R s m args below meth c Q own cc nL g cells slots sz (pc') ls (.double (FP.ddiv x y) :: st) h) : a_W p l e R s m args below meth c Q own cc nL g cells slots sz (pc) ls (.double y :: .double x :: st) h := fun F H locs lsC hP hS hz hl => by subst hp; exact lv_ddiv F.1 F.2.1 hd hne (k F H locs lsC hP hS hz hl)
theorem a_dmul {x y : UInt64} (hd : decode cc pc = .ok (.dmul, 1)) (hp : pc + 1 = pc') (hne : vf_n64 (FP.dmul x y)) (k : a_W p l e R s m args below meth c Q own cc nL g cells slots sz (pc') ls (.double (FP.dmul x y) :: st) h) : a_W p l e R s m args below meth c Q own cc nL g cells slots sz (pc) ls (.double y :: .double x :: st) h := fun F H locs lsC hP hS hz hl => by subst hp; exact lv_dmul F.1 F.2.1 hd hne (k F H locs lsC hP hS hz hl)
theorem a_dsub {x y : UInt64} (hd : decode cc pc = .ok (.dsub, 1)) (hp : pc + 1 = pc') (hne : vf_n64 (FP.dsub x y)) (k : a_W p l e R s m args below meth c Q own cc nL g cells slots sz (pc') ls (.double (FP.dsub x y) :: st) h) : a_W p l e R s m args below meth c Q own cc nL g cells slots sz (pc) ls (.double y :: .double x :: st) h := fun F H locs lsC hP hS hz hl => by subst hp; exact lv_dsub F.1 F.2.1 hd hne (k F H locs lsC hP hS hz hl)
theorem a_dcmp {x y : UInt64} {op : CmpOp} (hd : decode cc pc = .ok (.dcmp op, 1)) (hp : pc + 1 = pc')  (k : a_W p l e R s m args below meth c Q own cc nL g cells slots sz (pc') ls (.int (Op.cmpValue (FP.dcmp x y) op) :: st) h) : a_W p l e R s m args below meth c Q own cc nL g cells slots sz (pc) ls (.double y :: .double x :: st) h := fun F H locs lsC hP hS hz hl => by subst hp; exact lv_dcmp F.1 F.2.1 hd  (k F H locs lsC hP hS hz hl)
theorem a_lcmp {x y : Int64} (hd : decode cc pc = .ok (.lcmp, 1)) (hp : pc + 1 = pc') (k : a_W p l e R s m args below meth c Q own cc nL g cells slots sz (pc') ls (.int (lg_cmp x y) :: st) h) : a_W p l e R s m args below meth c Q own cc nL g cells slots sz (pc) ls (.long y :: .long x :: st) h := fun F H locs lsC hP hS hz hl => by subst hp; exact W.lcmp F.1 F.2.1 hd (k F H locs lsC hP hS hz hl)
theorem a_goto {off : Int} (tgt : Nat) (hd : decode cc pc = .ok (.goto off, 3)) (ht : (pc : Int) + off = (tgt : Int)) (k : a_W p l e R s m args below meth c Q own cc nL g cells slots sz (tgt) ls (st) h) : a_W p l e R s m args below meth c Q own cc nL g cells slots sz (pc) ls (st) h := fun F H locs lsC hP hS hz hl => lv_goto F.1 F.2.1 hd ht (k F H locs lsC hP hS hz hl)
theorem a_icmp_eq {x y : Int32} {off : Int} (tgt : Nat) (hd : decode cc pc = .ok (.if_icmp .eq off, 3)) (ht : (pc : Int) + off = (tgt : Int)) (hp : pc + 3 = pc') (kt : x = y → a_W p l e R s m args below meth c Q own cc nL g cells slots sz (tgt) ls (st) h) (kf : ¬ x = y → a_W p l e R s m args below meth c Q own cc nL g cells slots sz (pc') ls (st) h) : a_W p l e R s m args below meth c Q own cc nL g cells slots sz (pc) ls (.int y :: .int x :: st) h := fun F H locs lsC hP hS hz hl => by subst hp; exact lv_icmp_eq F.1 F.2.1 hd ht (fun q => kt q F H locs lsC hP hS hz hl) (fun q => kf q F H locs lsC hP hS hz hl)
theorem a_if_eq {x : Int32} {off : Int} (tgt : Nat) (hd : decode cc pc = .ok (.ifCond .eq off, 3)) (ht : (pc : Int) + off = (tgt : Int)) (hp : pc + 3 = pc') (kt : x = 0 → a_W p l e R s m args below meth c Q own cc nL g cells slots sz (tgt) ls (st) h) (kf : ¬ x = 0 → a_W p l e R s m args below meth c Q own cc nL g cells slots sz (pc') ls (st) h) : a_W p l e R s m args below meth c Q own cc nL g cells slots sz (pc) ls (.int x :: st) h := fun F H locs lsC hP hS hz hl => by subst hp; exact lv_if_eq F.1 F.2.1 hd ht (fun q => kt q F H locs lsC hP hS hz hl) (fun q => kf q F H locs lsC hP hS hz hl)
theorem a_icmp_ne {x y : Int32} {off : Int} (tgt : Nat) (hd : decode cc pc = .ok (.if_icmp .ne off, 3)) (ht : (pc : Int) + off = (tgt : Int)) (hp : pc + 3 = pc') (kt : ¬ x = y → a_W p l e R s m args below meth c Q own cc nL g cells slots sz (tgt) ls (st) h) (kf : x = y → a_W p l e R s m args below meth c Q own cc nL g cells slots sz (pc') ls (st) h) : a_W p l e R s m args below meth c Q own cc nL g cells slots sz (pc) ls (.int y :: .int x :: st) h := fun F H locs lsC hP hS hz hl => by subst hp; exact lv_icmp_ne F.1 F.2.1 hd ht (fun q => kt q F H locs lsC hP hS hz hl) (fun q => kf q F H locs lsC hP hS hz hl)
theorem a_if_ne {x : Int32} {off : Int} (tgt : Nat) (hd : decode cc pc = .ok (.ifCond .ne off, 3)) (ht : (pc : Int) + off = (tgt : Int)) (hp : pc + 3 = pc') (kt : ¬ x = 0 → a_W p l e R s m args below meth c Q own cc nL g cells slots sz (tgt) ls (st) h) (kf : x = 0 → a_W p l e R s m args below meth c Q own cc nL g cells slots sz (pc') ls (st) h) : a_W p l e R s m args below meth c Q own cc nL g cells slots sz (pc) ls (.int x :: st) h := fun F H locs lsC hP hS hz hl => by subst hp; exact lv_if_ne F.1 F.2.1 hd ht (fun q => kt q F H locs lsC hP hS hz hl) (fun q => kf q F H locs lsC hP hS hz hl)
theorem a_icmp_lt {x y : Int32} {off : Int} (tgt : Nat) (hd : decode cc pc = .ok (.if_icmp .lt off, 3)) (ht : (pc : Int) + off = (tgt : Int)) (hp : pc + 3 = pc') (kt : x < y → a_W p l e R s m args below meth c Q own cc nL g cells slots sz (tgt) ls (st) h) (kf : ¬ x < y → a_W p l e R s m args below meth c Q own cc nL g cells slots sz (pc') ls (st) h) : a_W p l e R s m args below meth c Q own cc nL g cells slots sz (pc) ls (.int y :: .int x :: st) h := fun F H locs lsC hP hS hz hl => by subst hp; exact lv_icmp_lt F.1 F.2.1 hd ht (fun q => kt q F H locs lsC hP hS hz hl) (fun q => kf q F H locs lsC hP hS hz hl)
theorem a_if_lt {x : Int32} {off : Int} (tgt : Nat) (hd : decode cc pc = .ok (.ifCond .lt off, 3)) (ht : (pc : Int) + off = (tgt : Int)) (hp : pc + 3 = pc') (kt : x < 0 → a_W p l e R s m args below meth c Q own cc nL g cells slots sz (tgt) ls (st) h) (kf : ¬ x < 0 → a_W p l e R s m args below meth c Q own cc nL g cells slots sz (pc') ls (st) h) : a_W p l e R s m args below meth c Q own cc nL g cells slots sz (pc) ls (.int x :: st) h := fun F H locs lsC hP hS hz hl => by subst hp; exact lv_if_lt F.1 F.2.1 hd ht (fun q => kt q F H locs lsC hP hS hz hl) (fun q => kf q F H locs lsC hP hS hz hl)
theorem a_icmp_ge {x y : Int32} {off : Int} (tgt : Nat) (hd : decode cc pc = .ok (.if_icmp .ge off, 3)) (ht : (pc : Int) + off = (tgt : Int)) (hp : pc + 3 = pc') (kt : y ≤ x → a_W p l e R s m args below meth c Q own cc nL g cells slots sz (tgt) ls (st) h) (kf : ¬ y ≤ x → a_W p l e R s m args below meth c Q own cc nL g cells slots sz (pc') ls (st) h) : a_W p l e R s m args below meth c Q own cc nL g cells slots sz (pc) ls (.int y :: .int x :: st) h := fun F H locs lsC hP hS hz hl => by subst hp; exact lv_icmp_ge F.1 F.2.1 hd ht (fun q => kt q F H locs lsC hP hS hz hl) (fun q => kf q F H locs lsC hP hS hz hl)
theorem a_if_ge {x : Int32} {off : Int} (tgt : Nat) (hd : decode cc pc = .ok (.ifCond .ge off, 3)) (ht : (pc : Int) + off = (tgt : Int)) (hp : pc + 3 = pc') (kt : 0 ≤ x → a_W p l e R s m args below meth c Q own cc nL g cells slots sz (tgt) ls (st) h) (kf : ¬ 0 ≤ x → a_W p l e R s m args below meth c Q own cc nL g cells slots sz (pc') ls (st) h) : a_W p l e R s m args below meth c Q own cc nL g cells slots sz (pc) ls (.int x :: st) h := fun F H locs lsC hP hS hz hl => by subst hp; exact lv_if_ge F.1 F.2.1 hd ht (fun q => kt q F H locs lsC hP hS hz hl) (fun q => kf q F H locs lsC hP hS hz hl)
theorem a_icmp_gt {x y : Int32} {off : Int} (tgt : Nat) (hd : decode cc pc = .ok (.if_icmp .gt off, 3)) (ht : (pc : Int) + off = (tgt : Int)) (hp : pc + 3 = pc') (kt : y < x → a_W p l e R s m args below meth c Q own cc nL g cells slots sz (tgt) ls (st) h) (kf : ¬ y < x → a_W p l e R s m args below meth c Q own cc nL g cells slots sz (pc') ls (st) h) : a_W p l e R s m args below meth c Q own cc nL g cells slots sz (pc) ls (.int y :: .int x :: st) h := fun F H locs lsC hP hS hz hl => by subst hp; exact lv_icmp_gt F.1 F.2.1 hd ht (fun q => kt q F H locs lsC hP hS hz hl) (fun q => kf q F H locs lsC hP hS hz hl)
theorem a_if_gt {x : Int32} {off : Int} (tgt : Nat) (hd : decode cc pc = .ok (.ifCond .gt off, 3)) (ht : (pc : Int) + off = (tgt : Int)) (hp : pc + 3 = pc') (kt : 0 < x → a_W p l e R s m args below meth c Q own cc nL g cells slots sz (tgt) ls (st) h) (kf : ¬ 0 < x → a_W p l e R s m args below meth c Q own cc nL g cells slots sz (pc') ls (st) h) : a_W p l e R s m args below meth c Q own cc nL g cells slots sz (pc) ls (.int x :: st) h := fun F H locs lsC hP hS hz hl => by subst hp; exact lv_if_gt F.1 F.2.1 hd ht (fun q => kt q F H locs lsC hP hS hz hl) (fun q => kf q F H locs lsC hP hS hz hl)
theorem a_icmp_le {x y : Int32} {off : Int} (tgt : Nat) (hd : decode cc pc = .ok (.if_icmp .le off, 3)) (ht : (pc : Int) + off = (tgt : Int)) (hp : pc + 3 = pc') (kt : x ≤ y → a_W p l e R s m args below meth c Q own cc nL g cells slots sz (tgt) ls (st) h) (kf : ¬ x ≤ y → a_W p l e R s m args below meth c Q own cc nL g cells slots sz (pc') ls (st) h) : a_W p l e R s m args below meth c Q own cc nL g cells slots sz (pc) ls (.int y :: .int x :: st) h := fun F H locs lsC hP hS hz hl => by subst hp; exact lv_icmp_le F.1 F.2.1 hd ht (fun q => kt q F H locs lsC hP hS hz hl) (fun q => kf q F H locs lsC hP hS hz hl)
theorem a_if_le {x : Int32} {off : Int} (tgt : Nat) (hd : decode cc pc = .ok (.ifCond .le off, 3)) (ht : (pc : Int) + off = (tgt : Int)) (hp : pc + 3 = pc') (kt : x ≤ 0 → a_W p l e R s m args below meth c Q own cc nL g cells slots sz (tgt) ls (st) h) (kf : ¬ x ≤ 0 → a_W p l e R s m args below meth c Q own cc nL g cells slots sz (pc') ls (st) h) : a_W p l e R s m args below meth c Q own cc nL g cells slots sz (pc) ls (.int x :: st) h := fun F H locs lsC hP hS hz hl => by subst hp; exact lv_if_le F.1 F.2.1 hd ht (fun q => kt q F H locs lsC hP hS hz hl) (fun q => kf q F H locs lsC hP hS hz hl)
theorem a_ifnull {i : Nat} {off : Int} (hd : decode cc pc = .ok (.ifnull off, 3)) (hp : pc + 3 = pc') (k : a_W p l e R s m args below meth c Q own cc nL g cells slots sz (pc') ls (st) h) : a_W p l e R s m args below meth c Q own cc nL g cells slots sz (pc) ls (.ref i :: st) h := fun F H locs lsC hP hS hz hl => by subst hp; exact lv_ifnull F.1 F.2.1 hd (k F H locs lsC hP hS hz hl)
theorem a_ifnullN {off : Int} (tgt : Nat) (hd : decode cc pc = .ok (.ifnull off, 3)) (ht : (pc : Int) + off = (tgt : Int)) (k : a_W p l e R s m args below meth c Q own cc nL g cells slots sz (tgt) ls (st) h) : a_W p l e R s m args below meth c Q own cc nL g cells slots sz (pc) ls (.null :: st) h := fun F H locs lsC hP hS hz hl => lv_ifnullN F.1 F.2.1 hd ht (k F H locs lsC hP hS hz hl)
theorem a_null (hd : decode cc pc = .ok (.aconst_null, 1)) (hp : pc + 1 = pc') (k : a_W p l e R s m args below meth c Q own cc nL g cells slots sz (pc') ls (.null :: st) h) : a_W p l e R s m args below meth c Q own cc nL g cells slots sz (pc) ls (st) h := fun F H locs lsC hP hS hz hl => by subst hp; exact lv_null F.1 F.2.1 hd (k F H locs lsC hP hS hz hl)
theorem a_lookup {dflt : Int} {ps : Array (Int × Int)} {len : Nat} {x : Int32} {off : Int} (tgt : Nat) (hd : decode cc pc = .ok (.lookupswitch dflt ps, len)) (hs : (ps.toList.zip (ps.toList.drop 1)).all (fun (a, next) => a.1 < next.1) = true) (ho : Op.lookupswitch.offset ps.toList dflt x.toInt = off) (ht : (pc : Int) + off = (tgt : Int)) (k : a_W p l e R s m args below meth c Q own cc nL g cells slots sz (tgt) ls (st) h) : a_W p l e R s m args below meth c Q own cc nL g cells slots sz (pc) ls (.int x :: st) h := fun F H locs lsC hP hS hz hl => lv_lookup F.1 F.2.1 hd hs ho ht (k F H locs lsC hP hS hz hl)
theorem a_tableOut {dflt lo hi : Int} {offs : Array Int} {len : Nat} {x : Int32} (tgt : Nat) (hd : decode cc pc = .ok (.tableswitch dflt lo hi offs, len)) (hx : x.toInt < lo ∨ hi < x.toInt) (ht : (pc : Int) + dflt = (tgt : Int)) (k : a_W p l e R s m args below meth c Q own cc nL g cells slots sz (tgt) ls (st) h) : a_W p l e R s m args below meth c Q own cc nL g cells slots sz (pc) ls (.int x :: st) h := fun F H locs lsC hP hS hz hl => lv_tableOut F.1 F.2.1 hd hx ht (k F H locs lsC hP hS hz hl)
theorem a_tableIn {dflt lo hi : Int} {offs : Array Int} {len : Nat} {x : Int32} {off : Int} (tgt : Nat) (hd : decode cc pc = .ok (.tableswitch dflt lo hi offs, len)) (h1 : ¬ x.toInt < lo) (h2 : ¬ hi < x.toInt) (ho : offs[(x.toInt - lo).toNat]? = some off) (ht : (pc : Int) + off = (tgt : Int)) (k : a_W p l e R s m args below meth c Q own cc nL g cells slots sz (tgt) ls (st) h) : a_W p l e R s m args below meth c Q own cc nL g cells slots sz (pc) ls (.int x :: st) h := fun F H locs lsC hP hS hz hl => lv_tableIn F.1 F.2.1 hd h1 h2 ho ht (k F H locs lsC hP hS hz hl)
theorem a_ldc {idx : Nat} {v : Int32} (hm : Cond.constant own idx v ∈ a_WS) (hd : decode cc pc = .ok (.ldc idx, 2)) (hp : pc + 2 = pc') (k : a_W p l e R s m args below meth c Q own cc nL g cells slots sz (pc') ls (.int v :: st) h) : a_W p l e R s m args below meth c Q own cc nL g cells slots sz (pc) ls (st) h := fun F H locs lsC hP hS hz hl => by subst hp; exact lv_ldc F.1 F.2.1 F.2.2.2.1 (F.2.2.2.2.1 _ hm) hd (k F H locs lsC hP hS hz hl)
theorem a_ldcw {idx : Nat} {v : Int32} (hm : Cond.constant own idx v ∈ a_WS) (hd : decode cc pc = .ok (.ldc_w idx, 3)) (hp : pc + 3 = pc') (k : a_W p l e R s m args below meth c Q own cc nL g cells slots sz (pc') ls (.int v :: st) h) : a_W p l e R s m args below meth c Q own cc nL g cells slots sz (pc) ls (st) h := fun F H locs lsC hP hS hz hl => by subst hp; exact lv_ldcw F.1 F.2.1 F.2.2.2.1 (F.2.2.2.2.1 _ hm) hd (k F H locs lsC hP hS hz hl)
theorem a_ldc2 {idx : Nat} {v : Int64} (hm : Cond.constantLong own idx v ∈ a_WS) (hd : decode cc pc = .ok (.ldc2_w idx, 3)) (hp : pc + 3 = pc') (k : a_W p l e R s m args below meth c Q own cc nL g cells slots sz (pc') ls (.long v :: st) h) : a_W p l e R s m args below meth c Q own cc nL g cells slots sz (pc) ls (st) h := fun F H locs lsC hP hS hz hl => by subst hp; exact lv_ldc2 F.1 F.2.1 F.2.2.2.1 (F.2.2.2.2.1 _ hm) hd (k F H locs lsC hP hS hz hl)
theorem a_ldc2d {idx : Nat} {v : UInt64} (hm : Cond.constantDouble own idx v ∈ a_WS) (hd : decode cc pc = .ok (.ldc2_w idx, 3)) (hp : pc + 3 = pc') (k : a_W p l e R s m args below meth c Q own cc nL g cells slots sz (pc') ls (.double v :: st) h) : a_W p l e R s m args below meth c Q own cc nL g cells slots sz (pc) ls (st) h := fun F H locs lsC hP hS hz hl => by subst hp; exact lv_ldc2d F.1 F.2.1 F.2.2.2.1 (F.2.2.2.2.1 _ hm) hd (k F H locs lsC hP hS hz hl)
theorem a_get {ci k i idx : Nat} {C : String} {T : u_T} {N : Nat} {fs : List Value} {v : Value} (hc : a_cl[ci]? = some (C, T, N)) (hin : ∀ w ∈ u_ws C T N, w ∈ a_WS) (hk : k < N) (hm : Cond.fieldLink own idx (T k).1 (T k).2.1 (T k).2.2.1 ∈ a_WS) (he : h[i]? = some (.inr (ci, fs))) (hv : fs[k]? = some v) (hd : decode cc pc = .ok (.getfield idx, 3)) (hp : pc + 3 = pc') (kk : a_W p l e R s m args below meth c Q own cc nL g cells slots sz (pc') ls (v :: st) h) : a_W p l e R s m args below meth c Q own cc nL g cells slots sz (pc) ls (.ref i :: st) h := fun F H locs lsC hP hS hz hl => by subst hp; exact va_get F.1 F.2.1 F.2.2.2.2.1 hin F.2.2.2.1 F.2.2.2.2.2.2.1 hP.2 i (a_cw_get he) hc k hk (F.2.2.2.2.1 _ hm) (fun _ h => h) (v := a_cv g v) (by rw [List.getElem?_map, hv]; rfl) hd (kk F H locs lsC hP hS hz hl)
theorem a_put {ci k i idx : Nat} {C : String} {T : u_T} {N : Nat} {ty0 : Nat → FieldType} {fs : List Value} {v : Value} {ty : FieldType} (hc : a_cl[ci]? = some (C, T, N)) (hin : ∀ w ∈ u_ws C T N, w ∈ a_WS) (hty : ∀ k, k < N → parseFieldDescriptor (T k).2.2.1 = some (ty0 k)) (hnm : ∀ a, a < N → ∀ b, b < N → a ≠ b → (T a).2.1 ≠ (T b).2.1) (hk : k < N) (hm : Cond.fieldLink own idx (T k).1 (T k).2.1 (T k).2.2.1 ∈ a_WS) (hfin : (T k).2.2.2 = false) (hdt : parseFieldDescriptor (T k).2.2.1 = some ty) (he : h[i]? = some (.inr (ci, fs))) (hlen : k < fs.length) (hn : narrow ty (a_cv g v) = a_cv g v) (hfit : fits ty (a_cv g v) = true) (hd : decode cc pc = .ok (.putfield idx, 3)) (hp : pc + 3 = pc') (kk : a_W p l e R s m args below meth c Q own cc nL g cells slots sz (pc') ls (st) (h.set i (.inr (ci, fs.set k v)))) : a_W p l e R s m args below meth c Q own cc nL g cells slots sz (pc) ls (v :: .ref i :: st) h := by
  intro F H locs lsC hP hS hz hl
  subst hp
  obtain ⟨hx, hb, -, hown, hts, -, hE⟩ := id F
  have hD := a_Dof hE.2.1 hP.1
  have he' := a_cw_get (g := g) he
  have hap := va_apart (own := own) hts hin ty0 hty hnm hE.1 hc
  obtain ⟨r, h1, cell, q1, q2, q3, q4⟩ := hP.2 i _ he'
  have hr : r = (C, T, N) := Option.some.inj (h1.symm.trans hc)
  subst hr
  obtain ⟨hSl, hfc, kC, hkC, hkind⟩ := hE.1.1 ci _ hc
  obtain ⟨cf, kf, fi, f, hi, hsl⟩ := hSl k hk
  have hlay := hts _ (hin _ (u_in_lay hk))
  unfold u_lay at hlay
  rw [if_neg (by rw [hfin]; decide)] at hlay
  have hst := (u_facts hfc hkC (u_lays hts hin hk) hi).1
  have h6 := u_store hfc hkC hkind hlay hi hdt hn hfit
  have hl2 : k < (fs.map (a_cv g)).length := by rw [List.length_map]; exact hlen
  refine W.putK hx hb (f := f) ⟨hown, hts _ hm, ⟨_, _, _, hi⟩, hst⟩ (by rw [q2]; exact h6) q1 q3 (by rw [hsl]; exact k2_hasslot (q4 k hk)) rfl rfl hd fun H' e1 e2 e3 => ?_
  rw [hsl] at e1 ⊢
  have hP1 := hP.2.set hD he' (e := .inr (ci, (fs.map (a_cv g)).set k (a_cv g v))) ⟨_, hc, t_OB.to (V := updV (vp_V (fs.map (a_cv g))) k (a_cv g v)) ⟨_, e1, q2, q3, t_set q4 hap hk (a_cv g v)⟩ (fun j _ => vp_updV_set hl2 (a_cv g v) j)⟩ e3
  refine kk F H' _ lsC ⟨by rw [List.length_set]; exact hP.1, ?_⟩ (hS.put e2 e3 (hD.2 i _ he')) (fun n hn2 => e2.trans (hz n hn2)) hl
  rw [a_cw_set]
  show va_P _ _ ((a_cw g h).set i (a_ad g i, .inr (ci, (fs.set k v).map (a_cv g)))) H'
  rw [List.map_set]
  exact hP1
theorem a_putF {ci k i idx : Nat} {C : String} {T : u_T} {N : Nat} {ty0 : Nat → FieldType} {fs : List Value} {v : Value} {ty : FieldType} (hc : a_cl[ci]? = some (C, T, N)) (hin : ∀ w ∈ u_ws C T N, w ∈ a_WS) (hty : ∀ k, k < N → parseFieldDescriptor (T k).2.2.1 = some (ty0 k)) (hnm : ∀ a, a < N → ∀ b, b < N → a ≠ b → (T a).2.1 ≠ (T b).2.1) (hk : k < N) (hm : Cond.fieldLink own idx (T k).1 (T k).2.1 (T k).2.2.1 ∈ a_WS) (hfin : (T k).2.2.2 = true) (hin2 : meth.name = "<init>") (hdecl : (T k).1 = own) (hdt : parseFieldDescriptor (T k).2.2.1 = some ty) (he : h[i]? = some (.inr (ci, fs))) (hlen : k < fs.length) (hn : narrow ty (a_cv g v) = a_cv g v) (hfit : fits ty (a_cv g v) = true) (hd : decode cc pc = .ok (.putfield idx, 3)) (hp : pc + 3 = pc') (kk : a_W p l e R s m args below meth c Q own cc nL g cells slots sz (pc') ls (st) (h.set i (.inr (ci, fs.set k v)))) : a_W p l e R s m args below meth c Q own cc nL g cells slots sz (pc) ls (v :: .ref i :: st) h := by
  intro F H locs lsC hP hS hz hl
  subst hp
  obtain ⟨hx, hb, -, hown, hts, -, hE⟩ := id F
  have hD := a_Dof hE.2.1 hP.1
  have he' := a_cw_get (g := g) he
  have hap := va_apart (own := own) hts hin ty0 hty hnm hE.1 hc
  obtain ⟨r, h1, cell, q1, q2, q3, q4⟩ := hP.2 i _ he'
  have hr : r = (C, T, N) := Option.some.inj (h1.symm.trans hc)
  subst hr
  obtain ⟨hSl, hfc, kC, hkC, hkind⟩ := hE.1.1 ci _ hc
  obtain ⟨cf, kf, fi, f, hi, hsl⟩ := hSl k hk
  have hlay := hts _ (hin _ (u_in_lay hk))
  unfold u_lay at hlay
  rw [if_pos hfin] at hlay
  have hst := (u_facts hfc hkC (u_lays hts hin hk) hi).1
  have hcf : m.cls = cf := by
    obtain ⟨_, _, c', _, _, _, -, -, hf', -, -, -, hown2, -⟩ := Cond.laysFinal_spec hlay
    have e1 : c' = cf := by have := hi.symm.trans hf'; simp at this; exact this.1.symm
    rw [hdecl] at hown2
    rw [← e1]; exact Option.some.inj (hown.symm.trans hown2)
  have h6 := u_fits hfc hkC hkind (Or.inr hlay) hi hdt hn hfit
  have hl2 : k < (fs.map (a_cv g)).length := by rw [List.length_map]; exact hlen
  refine W.putFinK hx hb hown (hts _ hm) hi hst hcf hin2 (by rw [q2]; exact h6) q1 q3 (by rw [hsl]; exact k2_hasslot (q4 k hk)) rfl rfl hd fun H' e1 e2 e3 => ?_
  rw [hsl] at e1 ⊢
  have hP1 := hP.2.set hD he' (e := .inr (ci, (fs.map (a_cv g)).set k (a_cv g v))) ⟨_, hc, t_OB.to (V := updV (vp_V (fs.map (a_cv g))) k (a_cv g v)) ⟨_, e1, q2, q3, t_set q4 hap hk (a_cv g v)⟩ (fun j _ => vp_updV_set hl2 (a_cv g v) j)⟩ e3
  refine kk F H' _ lsC ⟨by rw [List.length_set]; exact hP.1, ?_⟩ (hS.put e2 e3 (hD.2 i _ he')) (fun n hn2 => e2.trans (hz n hn2)) hl
  rw [a_cw_set]
  show va_P _ _ ((a_cw g h).set i (a_ad g i, .inr (ci, (fs.set k v).map (a_cv g)))) H'
  rw [List.map_set]
  exact hP1
theorem a_iald {i n : Nat} {x : Int32} {f : Nat → Int32} (he : h[i]? = some (.inl (0, n, .inl f))) (hi : vp_in x n) (hd : decode cc pc = .ok (.iaload, 1)) (hp : pc + 1 = pc') (kk : a_W p l e R s m args below meth c Q own cc nL g cells slots sz (pc') ls (.int (f x.toNatClampNeg) :: st) h) : a_W p l e R s m args below meth c Q own cc nL g cells slots sz (pc) ls (.int x :: .ref i :: st) h := fun F H locs lsC hP hS hz hl => by subst hp; exact va_iald F.1 F.2.1 F.2.2.2.2.2.2.1 hP.2 i 0 (a_cw_get he) rfl hi hd (kk F H locs lsC hP hS hz hl)
theorem a_cald {i n : Nat} {x : Int32} {f : Nat → Int32} (he : h[i]? = some (.inl (1, n, .inl f))) (hi : vp_in x n) (hd : decode cc pc = .ok (.caload, 1)) (hp : pc + 1 = pc') (kk : a_W p l e R s m args below meth c Q own cc nL g cells slots sz (pc') ls (.int (f x.toNatClampNeg) :: st) h) : a_W p l e R s m args below meth c Q own cc nL g cells slots sz (pc) ls (.int x :: .ref i :: st) h := fun F H locs lsC hP hS hz hl => by subst hp; exact va_cald F.1 F.2.1 F.2.2.2.2.2.2.1 hP.2 i 1 (a_cw_get he) rfl hi hd (kk F H locs lsC hP hS hz hl)
theorem a_lald {i n : Nat} {x : Int32} {f : Nat → Int64} (he : h[i]? = some (.inl (2, n, .inr (.inl f)))) (hi : vp_in x n) (hd : decode cc pc = .ok (.laload, 1)) (hp : pc + 1 = pc') (kk : a_W p l e R s m args below meth c Q own cc nL g cells slots sz (pc') ls (.long (f x.toNatClampNeg) :: st) h) : a_W p l e R s m args below meth c Q own cc nL g cells slots sz (pc) ls (.int x :: .ref i :: st) h := fun F H locs lsC hP hS hz hl => by subst hp; exact va_lald F.1 F.2.1 F.2.2.2.2.2.2.1 hP.2 i 2 (a_cw_get he) rfl hi hd (kk F H locs lsC hP hS hz hl)
theorem a_alen {i kd : Nat} {x : vp_A} {v : Int32} (hkd : kd < 4) (he : h[i]? = some (.inl (kd, x))) (hv : Int32.ofNat x.1 = v) (hd : decode cc pc = .ok (.arraylength, 1)) (hp : pc + 1 = pc') (kk : a_W p l e R s m args below meth c Q own cc nL g cells slots sz (pc') ls (.int v :: st) h) : a_W p l e R s m args below meth c Q own cc nL g cells slots sz (pc) ls (.ref i :: st) h := fun F H locs lsC hP hS hz hl => by
  subst hp
  obtain ⟨ty, hty⟩ : ∃ ty, (a_tys g)[kd]? = some (a_ct g kd, ty) := by
    rcases (show kd = 0 ∨ kd = 1 ∨ kd = 2 ∨ kd = 3 by omega) with rfl | rfl | rfl | rfl <;> exact ⟨_, rfl⟩
  exact va_alen F.1 F.2.1 F.2.2.2.2.2.2.1 hP.2 i kd (a_cw_get he) hty (by obtain ⟨n, f | f | f | f | f⟩ := x <;> exact hv) hd (kk F H locs lsC hP hS hz hl)
theorem a_iast {i n : Nat} {j x : Int32} {f : Nat → Int32} (he : h[i]? = some (.inl (0, n, .inl f))) (hi : vp_in j n) (hd : decode cc pc = .ok (.iastore, 1)) (hp : pc + 1 = pc') (kk : a_W p l e R s m args below meth c Q own cc nL g cells slots sz (pc') ls (st) (h.set i (.inl (0, n, .inl (upd f j.toNatClampNeg x))))) : a_W p l e R s m args below meth c Q own cc nL g cells slots sz (pc) ls (.int x :: .int j :: .ref i :: st) h := by
  intro F H locs lsC hP hS hz hl
  subst hp
  have hD := a_Dof F.2.2.2.2.2.2.2.1 hP.1
  have he' := a_cw_get (g := g) he
  refine W.iast F.1 F.2.1 (hP.2 i _ he') ((F.2.2.2.2.2.2.1.2 0 _ rfl).1 n (fun q => .int (f q))) (fun q => by cases q) (by show ¬ (j < 0 ∨ (arrV _ _ _).slots.size ≤ _); rw [arrV_size]; exact hi) rfl rfl hd fun H1 e1 z1 oq => ?_
  refine kk F H1 _ lsC ⟨by rw [List.length_set]; exact hP.1, ?_⟩ (hS.put z1 oq (hD.2 i _ he')) (fun n hn2 => z1.trans (hz n hn2)) hl
  rw [a_cw_set]
  refine hP.2.set hD he' ?_ oq
  show H1[a_ad g i]? = some (vp_cell _ _)
  rw [e1]
  show some ((vp_cell _ (n, .inl f)).setSlot _ _) = some (vp_cell _ (n, .inl _))
  rw [vp_cell_i, vp_cell_i, arrV_store]
  congr 2
  funext q
  by_cases hq : q = j.toNatClampNeg
  · subst hq
    first
    | (simp [updV, upd]; done)
    | (simp [updV, upd, vp_nar, narrow]; done)
  · simp [updV, upd, hq]
theorem a_cast {i n : Nat} {j x : Int32} {f : Nat → Int32} (he : h[i]? = some (.inl (1, n, .inl f))) (hi : vp_in j n) (hd : decode cc pc = .ok (.castore, 1)) (hp : pc + 1 = pc') (kk : a_W p l e R s m args below meth c Q own cc nL g cells slots sz (pc') ls (st) (h.set i (.inl (1, n, .inl (upd f j.toNatClampNeg (vp_nar .char x)))))) : a_W p l e R s m args below meth c Q own cc nL g cells slots sz (pc) ls (.int x :: .int j :: .ref i :: st) h := by
  intro F H locs lsC hP hS hz hl
  subst hp
  have hD := a_Dof F.2.2.2.2.2.2.2.1 hP.1
  have he' := a_cw_get (g := g) he
  refine W.cast F.1 F.2.1 (hP.2 i _ he') ((F.2.2.2.2.2.2.1.2 1 _ rfl).1 n (fun q => .int (f q))) (fun q => by cases q) (by show ¬ (j < 0 ∨ (arrV _ _ _).slots.size ≤ _); rw [arrV_size]; exact hi) rfl rfl hd fun H1 e1 z1 oq => ?_
  refine kk F H1 _ lsC ⟨by rw [List.length_set]; exact hP.1, ?_⟩ (hS.put z1 oq (hD.2 i _ he')) (fun n hn2 => z1.trans (hz n hn2)) hl
  rw [a_cw_set]
  refine hP.2.set hD he' ?_ oq
  show H1[a_ad g i]? = some (vp_cell _ _)
  rw [e1]
  show some ((vp_cell _ (n, .inl f)).setSlot _ _) = some (vp_cell _ (n, .inl _))
  rw [vp_cell_i, vp_cell_i, arrV_store]
  congr 2
  funext q
  by_cases hq : q = j.toNatClampNeg
  · subst hq
    first
    | (simp [updV, upd]; done)
    | (simp [updV, upd, vp_nar, narrow]; done)
  · simp [updV, upd, hq]
theorem a_last {i n : Nat} {j : Int32} {x : Int64} {f : Nat → Int64} (he : h[i]? = some (.inl (2, n, .inr (.inl f)))) (hi : vp_in j n) (hd : decode cc pc = .ok (.lastore, 1)) (hp : pc + 1 = pc') (kk : a_W p l e R s m args below meth c Q own cc nL g cells slots sz (pc') ls (st) (h.set i (.inl (2, n, .inr (.inl (vp_updL f j.toNatClampNeg x)))))) : a_W p l e R s m args below meth c Q own cc nL g cells slots sz (pc) ls (.long x :: .int j :: .ref i :: st) h := by
  intro F H locs lsC hP hS hz hl
  subst hp
  have hD := a_Dof F.2.2.2.2.2.2.2.1 hP.1
  have he' := a_cw_get (g := g) he
  refine W.last F.1 F.2.1 (hP.2 i _ he') ((F.2.2.2.2.2.2.1.2 2 _ rfl).1 n (fun q => .long (f q))) (fun q => by cases q) (by show ¬ (j < 0 ∨ (arrV _ _ _).slots.size ≤ _); rw [arrV_size]; exact hi) rfl rfl hd fun H1 e1 z1 oq => ?_
  refine kk F H1 _ lsC ⟨by rw [List.length_set]; exact hP.1, ?_⟩ (hS.put z1 oq (hD.2 i _ he')) (fun n hn2 => z1.trans (hz n hn2)) hl
  rw [a_cw_set]
  refine hP.2.set hD he' ?_ oq
  show H1[a_ad g i]? = some (vp_cell _ _)
  rw [e1]
  show some ((vp_cell _ (n, .inr (.inl f))).setSlot _ _) = some (vp_cell _ (n, .inr (.inl _)))
  rw [vp_cell_l, vp_cell_l, arrV_store]
  congr 2
  funext q
  by_cases hq : q = j.toNatClampNeg
  · subst hq
    simp [updV, vp_updL]
  · simp [updV, vp_updL, hq]
theorem a_aald {i n : Nat} {x : Int32} {v : Nat} {f : Nat → Option Nat} (he : h[i]? = some (.inl (3, n, .inr (.inr (.inr (.inr f)))))) (hi : vp_in x n) (hv : f x.toNatClampNeg = some v) (hd : decode cc pc = .ok (.aaload, 1)) (hp : pc + 1 = pc') (kk : a_W p l e R s m args below meth c Q own cc nL g cells slots sz (pc') ls (.ref v :: st) h) : a_W p l e R s m args below meth c Q own cc nL g cells slots sz (pc) ls (.int x :: .ref i :: st) h := fun F H locs lsC hP hS hz hl => by
  subst hp
  refine va_aldq F.1 F.2.1 F.2.2.2.2.2.2.1 hP.2 i 3 (f := fun j => (f j).map (a_ad g)) (a_cw_get he) rfl hi hd ?_
  have e1 : (f x.toNatClampNeg).map (a_ad g) = some (a_ad g v) := by rw [hv]; rfl
  rw [e1]
  exact kk F H locs lsC hP hS hz hl
theorem a_sub {ls' : List (Nat × Value)} (ks : List Nat) (hk : ks.filterMap (fun k => ls[k]?) = ls') (kk : a_W p l e R s m args below meth c Q own cc nL g cells slots sz (pc) ls' (st) h) : a_W p l e R s m args below meth c Q own cc nL g cells slots sz (pc) ls (st) h := fun F H locs lsC hP hS hz hl => by
  refine kk F H locs lsC hP hS hz ⟨hl.1, hl.2.1, fun q hq => ?_⟩
  subst hk
  obtain ⟨z, hz1, rfl⟩ := List.mem_map.mp hq
  obtain ⟨k, -, hk2⟩ := List.mem_filterMap.mp hz1
  exact hl.2.2 _ (List.mem_map.mpr ⟨z, List.mem_of_getElem? hk2, rfl⟩)
theorem a_widen {k n : Nat} (h1 : cells ≤ k) (h2 : slots ≤ n) (kk : a_W p l e R s m args below meth c Q own cc nL g k n sz (pc) ls (st) h) : a_W p l e R s m args below meth c Q own cc nL g cells slots sz (pc) ls (st) h := fun F H locs lsC hP hS hz hl => W.widen h1 h2 (kk F H locs lsC hP hS hz hl)
theorem a_forget (kk : a_W p l e R s m args below meth c Q own cc nL g cells slots none (pc) ls (st) h) : a_W p l e R s m args below meth c Q own cc nL g cells slots sz (pc) ls (st) h := fun F H locs lsC hP hS hz hl => kk F H locs lsC hP hS (fun n hn => nomatch hn) hl
end AR
end
section
/-! contracts over the abstract layer, entering, returning, calling -/
theorem a_sl_len (g : a_G) (vs : List Value) : (lg_sl (vs.map (a_cv g))).length = (lg_sl vs).length := by
  induction vs with
  | nil => rfl
  | cons v vs ih =>
    unfold lg_sl at ih ⊢
    rw [List.map_cons, List.flatMap_cons, List.flatMap_cons, List.length_append, List.length_append, ih, a_cat]
    by_cases hc : v.category = 2 <;> simp [hc]
theorem a_args_map (g : a_G) (vs : List Value) (i : Nat) : lv_args i (vs.map (a_cv g)) = (lv_args i vs).map (a_lv g) := by
  induction vs generalizing i with
  | nil => rfl
  | cons v vs ih =>
    rw [List.map_cons]
    unfold lv_args
    rw [List.map_cons, ih, a_cat]
    rfl
def a_Q (g : a_G) (szO : Option Nat) (post : Option Value → List va_E → Prop) : Array Value → State → Outcome → State → Prop := fun _ st oc t => (∃ (r : Option Value) (h' : List va_E), oc = .returned (r.map (a_cv g)) ∧ post r h' ∧ a_HP g h' t.heap ∧ a_SZ g szO t.heap) ∧ va_F (a_A g) st t
def a_X (g : a_G) (post : String → List va_E → Prop) : String → State → State → Prop := fun E st t => (∃ h' : List va_E, post E h' ∧ a_HP g h' t.heap) ∧ va_F (a_A g) st t
def a_Pre (g : a_G) (av : List Value) (h : List va_E) (szI : Option Nat) : Array Value → State → Prop := va_Pc (av.map (a_cv g)) (fun U => a_E g U ∧ a_HP g h U.heap ∧ a_SZ g szI U.heap)
/-- a contract of a method that throws nothing -/
def a_CT (l : Launch) (g : a_G) (y : MethodName) (bytes : ByteArray) (maxL : Nat) (ret : Option FieldType) (rm : Room) (av : List Value) (h : List va_E) (szI szO : Option Nat) (post : Option Value → List va_E → Prop) : Prop :=
  Met l y (.code y bytes maxL ret :: a_WS) rm (a_Pre g av h szI) (a_Q g szO post) rm.cells rm.slots (a_A g)
/-- .. of one that returns or throws -/
def a_CX (l : Launch) (g : a_G) (y : MethodName) (bytes : ByteArray) (maxL : Nat) (ret : Option FieldType) (rm : Room) (av : List Value) (h : List va_E) (post : Option Value → List va_E → Prop) (postX : String → List va_E → Prop) : Prop :=
  vx_Met l y (.code y bytes maxL ret :: a_WS) rm (a_Pre g av h none) (a_Q g none post) (a_X g postX) rm.cells rm.slots (a_A g)
theorem a_Pre_blind {g : a_G} {av : List Value} {h : List va_E} {szI : Option Nat} : FrameBlind (a_Pre g av h szI) := fun a U gg mk q => by
  obtain ⟨q1, q2, q3, q4⟩ := q
  exact ⟨q1, a_E.same (u := U) (U := U.calling gg mk a) rfl rfl q2, q3, q4⟩
theorem a_good {ws : List Cond} {y : MethodName} {bytes : ByteArray} {maxL : Nat} {ret : Option FieldType} (hw : ∀ w ∈ ws, w ∈ a_WS) (hc : Cond.code y bytes maxL ret ∈ a_WS) : GoodIn a_WS (ws ++ (.code y bytes maxL ret :: a_WS)) := by
  have key : ∀ w ∈ a_WS, w ∈ a_WS ∧ ((w.onTables && w.keeps) = true ∨ ∃ ty, w = .arrayClass ty) := fun w h => ⟨h, good_of_word (a_WS_good h)⟩
  intro w h
  rcases List.mem_append.mp h with h | h
  · exact key w (hw w h)
  · rcases List.mem_cons.mp h with rfl | h
    · exact key _ hc
    · exact key w h
section AE
variable {l : Launch} {g : a_G} {y : MethodName} {bytes : ByteArray} {maxL : Nat} {ret : Option FieldType} {rm : Room} {av : List Value} {h : List va_E} {szI szO : Option Nat} {own : String} {post : Option Value → List va_E → Prop} {postX : String → List va_E → Prop}
theorem a_enter (hy : plainName y.cls = true ∧ y.cls = own ∧ (lg_sl av).length ≤ maxL)
    (body : ∀ (p : Program) (e : Env) (s : State) (m : MethodId) (args : Array Value) (below : List Frame) (meth : Method) (c : Code), meth.sig.returnType = ret → meth.name = y.name → a_W p l e rm s m args below meth c (MQ below (a_Q g szO post) args s rm.cells rm.slots (a_A g)) own bytes maxL g 0 0 szI 0 (lv_args 0 av) [] h) : a_CT l g y bytes maxL ret rm av h szI szO post := by
  refine Met.ofW (cc := bytes) (maxL := maxL) (ret := ret) hy.1 rfl ?_
  intro p e s m args below meth c s₁ B hml hv
  obtain ⟨rfl, hE, hP, hz⟩ := hv
  have hts := atoms_spec (ws := .code y bytes maxL ret :: a_WS) B.pre
  have hown : s.vm.findClass own = some m.cls := by rw [← hy.2.1]; exact findClass_of_methodNamed B.named
  have hin : meth.name = y.name := (name_of_methodNamed B.named B.method).1
  have hl := lv_entry (av.map (a_cv g)) (n := maxL) (by rw [a_sl_len]; exact hy.2.2)
  rw [a_args_map] at hl
  rw [lg_entry_eq]
  exact body p e s m _ below meth c B.returns hin ⟨B.exec, B.bytes, hml, hown, fun w hw => hts w (List.mem_cons_of_mem _ hw), B.notSynchronized, hE⟩ s.heap [] _ hP va_S.rf hz hl
theorem a_enterX (hy : plainName y.cls = true ∧ y.cls = own ∧ (lg_sl av).length ≤ maxL)
    (body : ∀ (p : Program) (e : Env) (s : State) (m : MethodId) (args : Array Value) (below : List Frame) (meth : Method) (c : Code), meth.sig.returnType = ret → (∀ x ∈ c.exceptionTable.toList, False) → a_W p l e rm s m args below meth c (vx_MQ below (a_Q g none post) (a_X g postX) args s rm.cells rm.slots (a_A g)) own bytes maxL g 0 0 none 0 (lv_args 0 av) [] h) : a_CX l g y bytes maxL ret rm av h post postX := by
  refine vx_ofW (cc := bytes) (maxL := maxL) (ret := ret) hy.1 rfl ?_
  intro p e s m args below meth c s₁ B hml hnx hv
  obtain ⟨rfl, hE, hP, hz⟩ := hv
  have hts := atoms_spec (ws := .code y bytes maxL ret :: a_WS) B.pre
  have hown : s.vm.findClass own = some m.cls := by rw [← hy.2.1]; exact findClass_of_methodNamed B.named
  have hl := lv_entry (av.map (a_cv g)) (n := maxL) (by rw [a_sl_len]; exact hy.2.2)
  rw [a_args_map] at hl
  rw [lg_entry_eq]
  exact body p e s m _ below meth c B.returns hnx ⟨B.exec, B.bytes, hml, hown, fun w hw => hts w (List.mem_cons_of_mem _ hw), B.notSynchronized, hE⟩ s.heap [] _ hP va_S.rf hz hl
end AE
section AC
variable {p : Program} {l : Launch} {e : Env} {R : Room} {s : State} {m : MethodId} {args : Array Value} {below : List Frame} {meth : Method} {c : Code} {Q : State → Prop} {own : String} {cc : ByteArray} {nL : Nat} {g : a_G} {cells slots : Nat} {sz : Option Nat} {pc pc' : Nat} {ls : List (Nat × Value)} {st : List Value} {h : List va_E}
theorem a_fin {post : Option Value → List va_E → Prop} {r : Option Value} {H : Heap} {locs : List Loc} {t : State} (hq : post r h) (hP : a_HP g h H) (hS : va_S (a_A g) s.heap H locs) (hz : a_SZ g sz H) (ht : t.heap = H) : a_Q g sz post args s (.returned (r.map (a_cv g))) t := ⟨⟨r, h, rfl, hq, by rw [ht]; exact hP, by rw [ht]; exact hz⟩, hS.F ht⟩

theorem a_iret {v : Int32} {post : Option Value → List va_E → Prop} (hr : meth.sig.returnType = some .int)  (hq : post (some (.int v)) h) (hd : decode cc pc = .ok (.ireturn, 1)) : a_W p l e R s m args below meth c (MQ below (a_Q g sz post) args s cells slots (a_A g)) own cc nL g cells slots sz pc ls [.int v] h := fun F H locs lsC hP hS hz hl => W.iret F.1 F.2.1 hr  (fun t ht hW => a_fin (r := (some (.int v))) hq hP hS hz ht) hS.2.2 hd F.2.2.2.2.2.1
theorem a_iretX {v : Int32} {post : Option Value → List va_E → Prop} {XC : String → State → State → Prop} (hr : meth.sig.returnType = some .int)  (hq : post (some (.int v)) h) (hd : decode cc pc = .ok (.ireturn, 1)) : a_W p l e R s m args below meth c (vx_MQ below (a_Q g sz post) XC args s cells slots (a_A g)) own cc nL g cells slots sz pc ls [.int v] h := fun F H locs lsC hP hS hz hl => vx_ret (a_iret hr  hq hd F H locs lsC hP hS hz hl)
theorem a_zret {v : Int32} {ty : FieldType} {post : Option Value → List va_E → Prop} (hr : meth.sig.returnType = some ty) (hn : narrow ty (.int v) = .int v) (hq : post (some (.int v)) h) (hd : decode cc pc = .ok (.ireturn, 1)) : a_W p l e R s m args below meth c (MQ below (a_Q g sz post) args s cells slots (a_A g)) own cc nL g cells slots sz pc ls [.int v] h := fun F H locs lsC hP hS hz hl => W.zret F.1 F.2.1 hr hn (fun t ht hW => a_fin (r := (some (.int v))) hq hP hS hz ht) hS.2.2 hd F.2.2.2.2.2.1
theorem a_zretX {v : Int32} {ty : FieldType} {post : Option Value → List va_E → Prop} {XC : String → State → State → Prop} (hr : meth.sig.returnType = some ty) (hn : narrow ty (.int v) = .int v) (hq : post (some (.int v)) h) (hd : decode cc pc = .ok (.ireturn, 1)) : a_W p l e R s m args below meth c (vx_MQ below (a_Q g sz post) XC args s cells slots (a_A g)) own cc nL g cells slots sz pc ls [.int v] h := fun F H locs lsC hP hS hz hl => vx_ret (a_zret hr hn hq hd F H locs lsC hP hS hz hl)
theorem a_lret {v : Int64} {post : Option Value → List va_E → Prop} (hr : meth.sig.returnType = some .long)  (hq : post (some (.long v)) h) (hd : decode cc pc = .ok (.lreturn, 1)) : a_W p l e R s m args below meth c (MQ below (a_Q g sz post) args s cells slots (a_A g)) own cc nL g cells slots sz pc ls [.long v] h := fun F H locs lsC hP hS hz hl => W.lret F.1 F.2.1 hr  (fun t ht hW => a_fin (r := (some (.long v))) hq hP hS hz ht) hS.2.2 hd F.2.2.2.2.2.1
theorem a_lretX {v : Int64} {post : Option Value → List va_E → Prop} {XC : String → State → State → Prop} (hr : meth.sig.returnType = some .long)  (hq : post (some (.long v)) h) (hd : decode cc pc = .ok (.lreturn, 1)) : a_W p l e R s m args below meth c (vx_MQ below (a_Q g sz post) XC args s cells slots (a_A g)) own cc nL g cells slots sz pc ls [.long v] h := fun F H locs lsC hP hS hz hl => vx_ret (a_lret hr  hq hd F H locs lsC hP hS hz hl)
theorem a_dret {v : UInt64} {post : Option Value → List va_E → Prop} (hr : meth.sig.returnType = some .double)  (hq : post (some (.double v)) h) (hd : decode cc pc = .ok (.dreturn, 1)) : a_W p l e R s m args below meth c (MQ below (a_Q g sz post) args s cells slots (a_A g)) own cc nL g cells slots sz pc ls [.double v] h := fun F H locs lsC hP hS hz hl => W.dret F.1 F.2.1 hr  (fun t ht hW => a_fin (r := (some (.double v))) hq hP hS hz ht) hS.2.2 hd F.2.2.2.2.2.1
theorem a_dretX {v : UInt64} {post : Option Value → List va_E → Prop} {XC : String → State → State → Prop} (hr : meth.sig.returnType = some .double)  (hq : post (some (.double v)) h) (hd : decode cc pc = .ok (.dreturn, 1)) : a_W p l e R s m args below meth c (vx_MQ below (a_Q g sz post) XC args s cells slots (a_A g)) own cc nL g cells slots sz pc ls [.double v] h := fun F H locs lsC hP hS hz hl => vx_ret (a_dret hr  hq hd F H locs lsC hP hS hz hl)
theorem a_vret  {post : Option Value → List va_E → Prop} (hr : meth.sig.returnType = none)  (hq : post none h) (hd : decode cc pc = .ok (.return_, 1)) : a_W p l e R s m args below meth c (MQ below (a_Q g sz post) args s cells slots (a_A g)) own cc nL g cells slots sz pc ls [] h := fun F H locs lsC hP hS hz hl => W.vret F.1 F.2.1 hr  (fun t ht hW => a_fin (r := none) hq hP hS hz ht) hS.2.2 hd F.2.2.2.2.2.1
theorem a_vretX  {post : Option Value → List va_E → Prop} {XC : String → State → State → Prop} (hr : meth.sig.returnType = none)  (hq : post none h) (hd : decode cc pc = .ok (.return_, 1)) : a_W p l e R s m args below meth c (vx_MQ below (a_Q g sz post) XC args s cells slots (a_A g)) own cc nL g cells slots sz pc ls [] h := fun F H locs lsC hP hS hz hl => vx_ret (a_vret hr  hq hd F H locs lsC hP hS hz hl)
theorem a_aret {v : Value} {nm : String} {post : Option Value → List va_E → Prop} (hr : meth.sig.returnType = some (.object nm)) (hv : v = .null ∨ ∃ i, v = .ref i) (hq : post (some v) h) (hd : decode cc pc = .ok (.areturn, 1)) : a_W p l e R s m args below meth c (MQ below (a_Q g sz post) args s cells slots (a_A g)) own cc nL g cells slots sz pc ls [v] h := fun F H locs lsC hP hS hz hl => W.aret F.1 F.2.1 hr (Or.inl ⟨_, rfl⟩) (by rcases hv with rfl | ⟨i, rfl⟩; exact Or.inl rfl; exact Or.inr ⟨_, rfl⟩) (fun t ht hW => a_fin (r := some v) hq hP hS hz ht) hS.2.2 hd F.2.2.2.2.2.1
theorem a_stk (g : a_G) (As : List Value) (i : Nat) (st : List Value) : (As.reverse ++ .ref i :: st).map (a_cv g) = (As.map (a_cv g)).reverse ++ .ref (a_ad g i) :: st.map (a_cv g) := by
  rw [List.map_append, List.map_reverse, List.map_cons]; rfl
theorem a_stkS (g : a_G) (As : List Value) (st : List Value) : (As.reverse ++ st).map (a_cv g) = (As.map (a_cv g)).reverse ++ st.map (a_cv g) := by
  rw [List.map_append, List.map_reverse]
theorem a_catsum (g : a_G) (st : List Value) : ((st.map (a_cv g)).map fun v => v.category).sum = (st.map fun v => v.category).sum := by
  rw [List.map_map]
  congr 1
  apply List.map_congr_left
  intro v _
  exact a_cat g v
/-- behind a call -/
theorem a_back {H : Heap} {locs : List Loc} {lsC : Array Slot} {rm : Room} {as : Array Value} {szO : Option Nat} {post : Option Value → List va_E → Prop} {st0 : List Value} (F : a_FX p s m args meth c own cc nL g) (hS : va_S (a_A g) s.heap H locs) (hl : lv_has lsC nL (ls.map (a_lv g)))
    (run : va_Run p l e R s m args below meth c H locs cells slots rm.cells rm.slots (F0 m pc lsC st0) (st.map (a_cv g)) (a_Q g szO post as) (a_A g))
    (kk : ∀ (r : Option Value) (h' : List va_E), post r h' → a_W p l e R s m args below meth c Q own cc nL g (cells + rm.cells) (slots + rm.slots) szO (pc + 3) ls (r.toList ++ st) h') : W p l e R s m args below meth c H locs cells slots Q (F0 m pc lsC st0) := by
  intro T hT X
  obtain ⟨v, st₀, t, T', L, h0, X', hL, e1, e2, ⟨⟨r, h', hv, hq, hP', hz'⟩, hF⟩, go⟩ := run T hT X
  have hv2 : v = r.map (a_cv g) := Outcome.returned.inj hv
  subst hv2
  obtain ⟨k1, k2, k3⟩ := vx_keep h0 e1 hS (fun _ _ q => q) (fun _ q => q) hL hF
  obtain ⟨t2, a1, b1⟩ := kk r h' hq F T'.heap (locs ++ L) lsC (by rw [e1]; exact hP') k3 (by rw [e1]; exact hz') hl T' rfl X'
  refine ⟨t2, go t2 ?_, b1⟩
  have e9 : (r.toList ++ st).map (a_cv g) = (r.map (a_cv g)).toList ++ st.map (a_cv g) := by cases r <;> rfl
  rw [e9] at a1
  exact a1
theorem a_pre {H : Heap} {locs : List Loc} {As : List Value} (F : a_FX p s m args meth c own cc nL g) (hP : a_HP g h H) (hS : va_S (a_A g) s.heap H locs) (hz : a_SZ g sz H) (U : State) (hU : U.heap = H) (hW : s.WarmedH U.vm) : a_Pre g As h sz (As.map (a_cv g)).toArray U := ⟨rfl, F.2.2.2.2.2.2.moved hS hW hU, by rw [hU]; exact hP, by rw [hU]; exact hz⟩
section Calls
variable {ci i idx n N maxL : Nat} {C : String} {T : u_T} {y : MethodName} {bytes : ByteArray} {ret : Option FieldType} {rm : Room} {As : List Value} {fs : List Value} {szO : Option Nat} {post : Option Value → List va_E → Prop} {postX : String → List va_E → Prop}
theorem a_callV (hM : a_CT l g y bytes maxL ret rm (.ref i :: As) h sz szO post) (hw : ∀ w ∈ [Cond.methodLink own idx y, .instanceMethod y, .selects C y y, .initialized C], w ∈ a_WS) (hcode : Cond.code y bytes maxL ret ∈ a_WS)
    (hy : y.cls = C ∧ y.cls ≠ "java/lang/invoke/MethodHandle" ∧ y.cls ≠ "java/lang/invoke/VarHandle" ∧ (parseMethodDescriptor y.desc).map (fun d => d.parameters.length) = some n) (hc : a_cl[ci]? = some (C, T, N)) (hn : As.length = n)
    (hR : rm.frames + 1 ≤ R.frames ∧ 8 + (maxL + 11) + rm.locals ≤ R.locals) (hf : cells + rm.cells ≤ R.cells ∧ slots + rm.slots ≤ R.slots) (he : h[i]? = some (.inr (ci, fs))) (hcat : (st.map fun v => v.category).sum ≤ 8) (hd : decode cc pc = .ok (.invokevirtual idx, 3)) (hp : pc + 3 = pc')
    (kk : ∀ (r : Option Value) (h' : List va_E), post r h' → a_W p l e R s m args below meth c Q own cc nL g (cells + rm.cells) (slots + rm.slots) szO pc' ls (r.toList ++ st) h') : a_W p l e R s m args below meth c Q own cc nL g cells slots sz pc ls (As.reverse ++ .ref i :: st) h := by
  intro F H locs lsC hP hS hz hl
  subst hp
  rw [a_stk]
  exact a_back F hS hl (va_runV (As := As.map (a_cv g)) (rest := st.map (a_cv g)) ⟨F.1, F.2.1, F.2.2.1, F.2.2.2.1, F.2.2.2.2.1⟩ hM (cwV n F.2.2.2.2.1 (a_good hw hcode) rfl rfl rfl hy hR) ⟨a_Pre_blind, va_recv F.2.2.2.2.2.2.1 hP.2 hc (a_cw_get he), fun U hU hW => a_pre F hP hS hz U hU hW⟩ rfl ((List.length_map ..).trans hn) hl.1 rfl (lv_room (by rw [a_catsum]; exact hcat)) hd hf) kk
theorem a_callS (hM : a_CT l g y bytes maxL ret rm As h sz szO post) (hw : ∀ w ∈ [Cond.methodLink own idx y, .static y, .initialized y.cls], w ∈ a_WS) (hcode : Cond.code y bytes maxL ret ∈ a_WS)
    (hy : y.cls ≠ "java/lang/invoke/MethodHandle" ∧ y.cls ≠ "java/lang/invoke/VarHandle" ∧ (parseMethodDescriptor y.desc).map (fun d => d.parameters.length) = some n) (hn : As.length = n)
    (hR : rm.frames + 1 ≤ R.frames ∧ 8 + (maxL + 11) + rm.locals ≤ R.locals) (hf : cells + rm.cells ≤ R.cells ∧ slots + rm.slots ≤ R.slots) (hcat : (st.map fun v => v.category).sum ≤ 8) (hd : decode cc pc = .ok (.invokestatic idx, 3)) (hp : pc + 3 = pc')
    (kk : ∀ (r : Option Value) (h' : List va_E), post r h' → a_W p l e R s m args below meth c Q own cc nL g (cells + rm.cells) (slots + rm.slots) szO pc' ls (r.toList ++ st) h') : a_W p l e R s m args below meth c Q own cc nL g cells slots sz pc ls (As.reverse ++ st) h := by
  intro F H locs lsC hP hS hz hl
  subst hp
  rw [a_stkS]
  exact a_back F hS hl (va_runS (As := As.map (a_cv g)) (rest := st.map (a_cv g)) ⟨F.1, F.2.1, F.2.2.1, F.2.2.2.1, F.2.2.2.2.1⟩ hM (va_cwS n F.2.2.2.2.1 (a_good hw hcode) rfl rfl rfl hy hR) ⟨a_Pre_blind, fun U hU hW => a_pre F hP hS hz U hU hW⟩ rfl ((List.length_map ..).trans hn) hl.1 rfl (lv_room (by rw [a_catsum]; exact hcat)) hd hf) kk
theorem a_callSN (hM : a_CT l g y bytes maxL ret rm As h sz szO post) (hnest : (own, idx, y) ∈ a_nest) (hw : ∀ w ∈ [Cond.static y, .initialized y.cls], w ∈ a_WS) (hcode : Cond.code y bytes maxL ret ∈ a_WS)
    (hy : y.cls ≠ "java/lang/invoke/MethodHandle" ∧ y.cls ≠ "java/lang/invoke/VarHandle" ∧ (parseMethodDescriptor y.desc).map (fun d => d.parameters.length) = some n) (hn : As.length = n)
    (hR : rm.frames + 1 ≤ R.frames ∧ 8 + (maxL + 11) + rm.locals ≤ R.locals) (hf : cells + rm.cells ≤ R.cells ∧ slots + rm.slots ≤ R.slots) (hcat : (st.map fun v => v.category).sum ≤ 8) (hd : decode cc pc = .ok (.invokestatic idx, 3)) (hp : pc + 3 = pc')
    (kk : ∀ (r : Option Value) (h' : List va_E), post r h' → a_W p l e R s m args below meth c Q own cc nL g (cells + rm.cells) (slots + rm.slots) szO pc' ls (r.toList ++ st) h') : a_W p l e R s m args below meth c Q own cc nL g cells slots sz pc ls (As.reverse ++ st) h := by
  intro F H locs lsC hP hS hz hl
  subst hp
  rw [a_stkS]
  exact a_back F hS hl (va_runSN (host := "SlateRoof") (As := As.map (a_cv g)) (rest := st.map (a_cv g)) ⟨F.1, F.2.1, F.2.2.1, F.2.2.2.1, F.2.2.2.2.1⟩ hM ⟨va_cnB n F.2.2.2.2.1 (a_good (ws := []) (fun _ h => nomatch h) hcode) rfl rfl rfl (F.2.2.2.2.2.2.2.2.2.2.1 _ hnest) (F.2.2.2.2.1 _ (hw _ (by simp))) hy hR, F.2.2.2.2.1 _ (hw _ (by simp)), trivial⟩ ⟨a_Pre_blind, fun U hU hW => a_pre F hP hS hz U hU hW⟩ rfl ((List.length_map ..).trans hn) hl.1 rfl (lv_room (by rw [a_catsum]; exact hcat)) hd hf) kk
theorem a_callI (hM : a_CT l g y bytes maxL none rm (.ref i :: As) h sz szO post) (hw : ∀ w ∈ [Cond.methodLink own idx y, .instanceMethod y, .initialized y.cls], w ∈ a_WS) (hcode : Cond.code y bytes maxL none ∈ a_WS)
    (hy : y.cls ≠ "java/lang/invoke/MethodHandle" ∧ y.cls ≠ "java/lang/invoke/VarHandle" ∧ (parseMethodDescriptor y.desc).map (fun d => d.parameters.length) = some n) (hy1 : y.name = "<init>") (hn : As.length = n)
    (hR : rm.frames + 1 ≤ R.frames ∧ 8 + (maxL + 11) + rm.locals ≤ R.locals) (hf : cells + rm.cells ≤ R.cells ∧ slots + rm.slots ≤ R.slots) (hcat : (st.map fun v => v.category).sum ≤ 8) (hd : decode cc pc = .ok (.invokespecial idx, 3)) (hp : pc + 3 = pc')
    (kk : ∀ (r : Option Value) (h' : List va_E), post r h' → a_W p l e R s m args below meth c Q own cc nL g (cells + rm.cells) (slots + rm.slots) szO pc' ls (r.toList ++ st) h') : a_W p l e R s m args below meth c Q own cc nL g cells slots sz pc ls (As.reverse ++ .ref i :: st) h := by
  intro F H locs lsC hP hS hz hl
  subst hp
  rw [a_stk]
  exact a_back F hS hl (va_runI (As := As.map (a_cv g)) (rest := st.map (a_cv g)) ⟨F.1, F.2.1, F.2.2.1, F.2.2.2.1, F.2.2.2.2.1⟩ hM (cwI n F.2.2.2.2.1 (a_good (ws := []) (fun _ h => nomatch h) hcode) rfl rfl rfl (F.2.2.2.2.1 _ (hw _ (by simp))) (F.2.2.2.2.1 _ (hw _ (by simp))) (F.2.2.2.2.1 _ (hw _ (by simp))) hy1 hy hR) ⟨a_Pre_blind, fun U hU hW => a_pre F hP hS hz U hU hW⟩ rfl ((List.length_map ..).trans hn) hl.1 rfl (lv_room (by rw [a_catsum]; exact hcat)) hd hf) kk
theorem a_callIN (hM : a_CT l g y bytes maxL none rm (.ref i :: As) h sz szO post) (hnest : (own, idx, y) ∈ a_nest) (hw : ∀ w ∈ [Cond.instanceMethod y, .initialized y.cls], w ∈ a_WS) (hcode : Cond.code y bytes maxL none ∈ a_WS)
    (hy : y.cls ≠ "java/lang/invoke/MethodHandle" ∧ y.cls ≠ "java/lang/invoke/VarHandle" ∧ (parseMethodDescriptor y.desc).map (fun d => d.parameters.length) = some n) (hy1 : y.name = "<init>") (hn : As.length = n)
    (hR : rm.frames + 1 ≤ R.frames ∧ 8 + (maxL + 11) + rm.locals ≤ R.locals) (hf : cells + rm.cells ≤ R.cells ∧ slots + rm.slots ≤ R.slots) (hcat : (st.map fun v => v.category).sum ≤ 8) (hd : decode cc pc = .ok (.invokespecial idx, 3)) (hp : pc + 3 = pc')
    (kk : ∀ (r : Option Value) (h' : List va_E), post r h' → a_W p l e R s m args below meth c Q own cc nL g (cells + rm.cells) (slots + rm.slots) szO pc' ls (r.toList ++ st) h') : a_W p l e R s m args below meth c Q own cc nL g cells slots sz pc ls (As.reverse ++ .ref i :: st) h := by
  intro F H locs lsC hP hS hz hl
  subst hp
  rw [a_stk]
  exact a_back F hS hl (va_runIN (host := "SlateRoof") (As := As.map (a_cv g)) (rest := st.map (a_cv g)) ⟨F.1, F.2.1, F.2.2.1, F.2.2.2.1, F.2.2.2.2.1⟩ hM ⟨va_cnB n F.2.2.2.2.1 (a_good (ws := []) (fun _ h => nomatch h) hcode) rfl rfl rfl (F.2.2.2.2.2.2.2.2.2.2.1 _ hnest) (F.2.2.2.2.1 _ (hw _ (by simp))) hy hR, hy1, F.2.2.2.2.1 _ (hw _ (by simp))⟩ ⟨a_Pre_blind, fun U hU hW => a_pre F hP hS hz U hU hW⟩ rfl ((List.length_map ..).trans hn) hl.1 rfl (lv_room (by rw [a_catsum]; exact hcat)) hd hf) kk
end Calls
theorem a_objI {i idx : Nat} (hw : ∀ w ∈ [Cond.methodLink own idx objectInit, .instanceMethod objectInit, .code objectInit ⟨#[0xb1]⟩ 1 none], w ∈ a_WS) (hd : decode cc pc = .ok (.invokespecial idx, 3)) (hf : 1 ≤ R.frames) (hlo : (st.map fun v => v.category).sum + 12 ≤ R.locals) (hp : pc + 3 = pc')
    (kk : a_W p l e R s m args below meth c Q own cc nL g cells slots sz pc' ls st h) : a_W p l e R s m args below meth c Q own cc nL g cells slots sz pc ls (.ref i :: st) h := by
  intro F H locs lsC hP hS hz hl
  subst hp
  refine W.objInit F.1 F.2.1 F.2.2.2.1 (F.2.2.2.2.1 _ (hw _ (by simp))) (F.2.2.2.2.1 _ (hw _ (by simp))) (F.2.2.2.2.1 _ (hw _ (by simp))) rfl (by rw [F.2.2.1]; exact hl.1) rfl hd hf (by show 2 * 0 + ((st.map (a_cv g)).map fun v => v.category).sum + 12 ≤ _; rw [a_catsum]; omega) ?_
  exact kk F H locs lsC hP hS hz hl
theorem a_mmax {idx : Nat} {x y : Int32} (hw : ∀ w ∈ [Cond.methodLink own idx Lib.Math.max.name, .static Lib.Math.max.name, .initialized "java/lang/Math", .code Lib.Math.max.name Lib.Math.max.code 2 (some .int)], w ∈ a_WS) (hd : decode cc pc = .ok (.invokestatic idx, 3)) (hf : 1 ≤ R.frames) (hlo : (st.map fun v => v.category).sum + 13 ≤ R.locals) (hcs : cells ≤ R.cells ∧ slots ≤ R.slots) (hp : pc + 3 = pc')
    (kk : a_W p l e R s m args below meth c Q own cc nL g cells slots sz pc' ls (.int (if x < y then y else x) :: st) h) : a_W p l e R s m args below meth c Q own cc nL g cells slots sz pc ls (.int y :: .int x :: st) h := by
  intro F H locs lsC hP hS hz hl
  subst hp
  exact va_mmax F.1 F.2.1 (F.2.2.1.trans hl.1.symm) F.2.2.2.1 (F.2.2.2.2.1 _ (hw _ (by simp))) (F.2.2.2.2.1 _ (hw _ (by simp))) (F.2.2.2.2.1 _ (hw _ (by simp))) (F.2.2.2.2.1 _ (hw _ (by simp))) hf (by rw [a_catsum]; exact hlo) hcs.1 hcs.2 hd (kk F H locs lsC hP hS hz hl)
theorem a_mmin {idx : Nat} {x y : Int32} (hw : ∀ w ∈ [Cond.methodLink own idx Lib.Math.min.name, .static Lib.Math.min.name, .initialized "java/lang/Math", .code Lib.Math.min.name Lib.Math.min.code 2 (some .int)], w ∈ a_WS) (hd : decode cc pc = .ok (.invokestatic idx, 3)) (hf : 1 ≤ R.frames) (hlo : (st.map fun v => v.category).sum + 13 ≤ R.locals) (hcs : cells ≤ R.cells ∧ slots ≤ R.slots) (hp : pc + 3 = pc')
    (kk : a_W p l e R s m args below meth c Q own cc nL g cells slots sz pc' ls (.int (if y < x then y else x) :: st) h) : a_W p l e R s m args below meth c Q own cc nL g cells slots sz pc ls (.int y :: .int x :: st) h := by
  intro F H locs lsC hP hS hz hl
  subst hp
  exact va_mmin F.1 F.2.1 (F.2.2.1.trans hl.1.symm) F.2.2.2.1 (F.2.2.2.2.1 _ (hw _ (by simp))) (F.2.2.2.2.1 _ (hw _ (by simp))) (F.2.2.2.2.1 _ (hw _ (by simp))) (F.2.2.2.2.1 _ (hw _ (by simp))) hf (by rw [a_catsum]; exact hlo) hcs.1 hcs.2 hd (kk F H locs lsC hP hS hz hl)
theorem a_copyi {idx i j n0 n1 : Nat} {sp dp n : Int32} {f f2 : Nat → Int32} (hw : ∀ w ∈ [Cond.methodLink own idx arraycopyName, .native arraycopyName, .static arraycopyName, .initialized "java/lang/System"], w ∈ a_WS) (he0 : h[i]? = some (.inl (0, n0, .inl f))) (he1 : h[j]? = some (.inl (0, n1, .inl f2))) (h1 : ¬ sp < 0) (h2 : ¬ dp < 0) (h3 : ¬ n < 0) (h4 : sp.toNatClampNeg + n.toNatClampNeg ≤ n0) (h5 : dp.toNatClampNeg + n.toNatClampNeg ≤ n1) (hd : decode cc pc = .ok (.invokestatic idx, 3)) (hf : 1 ≤ R.frames) (hlo : (st.map fun v => v.category).sum + (nativeFrameWords "java/lang/System" "arraycopy" 5 + 11) ≤ R.locals) (hp : pc + 3 = pc')
    (kk : a_W p l e R s m args below meth c Q own cc nL g cells slots none pc' ls st (h.set j (.inl (0, n1, .inl (va_cpy f f2 sp.toNatClampNeg dp.toNatClampNeg n.toNatClampNeg))))) : a_W p l e R s m args below meth c Q own cc nL g cells slots none pc ls (.int n :: .int dp :: .ref j :: .int sp :: .ref i :: st) h := by
  intro F H locs lsC hP hS hz hl
  subst hp
  refine va_copyi F.1 F.2.1 (F.2.2.1.trans hl.1.symm) F.2.2.2.1 (F.2.2.2.2.1 _ (hw _ (by simp))) (F.2.2.2.2.1 _ (hw _ (by simp))) (F.2.2.2.2.1 _ (hw _ (by simp))) (F.2.2.2.2.1 _ (hw _ (by simp))) F.2.2.2.2.2.2.1 hP.2 (a_Dof F.2.2.2.2.2.2.2.1 hP.1) hS i j 0 0 (a_cw_get he0) (a_cw_get he1) rfl rfl rfl h1 h2 h3 h4 h5 (fun _ _ => rfl) hf (by rw [a_catsum]; exact hlo) hd (fun H1 locs1 hP1 hD1 hS1 => ?_)
  refine kk F H1 locs1 lsC ⟨by rw [List.length_set]; exact hP.1, ?_⟩ hS1 (fun n hn => nomatch hn) hl
  rw [a_cw_set]
  exact hP1
end AC
end
